import java.util.ArrayDeque;
import java.util.ArrayList;
import java.util.Arrays;
import java.util.List;

/**
 * The document once more, written for the eye: every question is answered by playing whole evenings, every choice by
 * trying all. RandomRunsTest holds RainOpera against it.
 */
final class PlainOpera {
    /** An answer for which trying all would take too long. */
    static final int SKIPPED = Integer.MIN_VALUE;

    static final class Note {
        int voice;
        int pitch;
        int length;
        int bar;
        int act;
    }

    static final class Slate {
        int seat;
        int low;
        int high;
        boolean nailed;

        Slate copy() {
            Slate other = new Slate();
            other.seat = seat;
            other.low = low;
            other.high = high;
            other.nailed = nailed;
            return other;
        }
    }

    static final class Guest {
        int rank;
        int[] seats = {255, 255, 255, 255};

        Guest copy() {
            Guest other = new Guest();
            other.rank = rank;
            other.seats = seats.clone();
            return other;
        }
    }

    static final class State {
        boolean[] umbrella = new boolean[96];
        int[] bucket = new int[96];
        int[] mould = new int[96];
        Slate[] slates = new Slate[16];
        Guest[] guests = new Guest[10];
        int[] rain = new int[4];
        int evenings;
        int paid;
        int[] guestWet = new int[10];
        int[] ledSlate = new int[16];
        int[] ledNote = new int[32];
        int x = 1;

        State copy() {
            State s = new State();
            s.umbrella = umbrella.clone();
            s.bucket = bucket.clone();
            s.mould = mould.clone();
            for (int k = 0; k < 16; k++) {
                s.slates[k] = slates[k] == null ? null : slates[k].copy();
            }
            for (int g = 0; g < 10; g++) {
                s.guests[g] = guests[g] == null ? null : guests[g].copy();
            }
            s.rain = rain.clone();
            s.evenings = evenings;
            s.paid = paid;
            s.guestWet = guestWet.clone();
            s.ledSlate = ledSlate.clone();
            s.ledNote = ledNote.clone();
            s.x = x;
            return s;
        }
    }

    /** DROPS of one NOTE through one SLATE. */
    static final class Packet {
        int note;
        int slate;
        int drops;
        boolean snow;
        int act;
    }

    static final class Played {
        int[][] wet = new int[4][96];
        int[] byNote = new int[32];
        int[] bySlate = new int[16];

        int guestWet(Guest g) {
            int sum = 0;
            for (int a = 0; a < 4; a++) {
                sum += guestWet(g, a);
            }
            return sum;
        }

        int guestWet(Guest g, int act) {
            return g.seats[act] == 255 ? 0 : wet[act][g.seats[act]];
        }
    }

    private State now = new State();
    private State kept;
    private List<Note> notes = new ArrayList<>();
    private int bars;
    private int acts;
    private List<PlainLaw.Clause> law = new ArrayList<>();
    private final ArrayDeque<Integer> tape = new ArrayDeque<>();

    // ---- the evening

    private int[] letters(Note n, int i, int k, int pitch) {
        int seat = now.slates[k].seat;
        return PlainLaw.letters("v", n.voice, "p", pitch, "l", n.length, "i", i, "b", n.bar, "k", k, "a", n.act,
                "r", now.rain[n.act], "y", seat / 12, "x", seat % 12, "o", now.mould[seat]);
    }

    private List<Packet> packets(int shift) {
        List<Packet> all = new ArrayList<>();
        for (int i = 0; i < notes.size(); i++) {
            for (int k = 0; k < 16; k++) {
                Note n = notes.get(i);
                Slate s = now.slates[k];
                int pitch = n.pitch + shift;
                if (s == null || s.nailed || pitch < s.low || pitch > s.high) {
                    continue;
                }
                Packet p = new Packet();
                p.note = i;
                p.slate = k;
                p.act = n.act;
                int[] letters = letters(n, i, k, pitch);
                p.drops = PlainLaw.amount(law, 'd', letters, 99);
                p.snow = PlainLaw.any(law, 's', letters);
                all.add(p);
            }
        }
        return all;
    }

    private Played play(List<Packet> packets, int[] buckets) {
        Played played = new Played();
        List<Packet> snow = new ArrayList<>();
        for (int act = 0; act < 4; act++) {
            int[] free = buckets.clone();
            List<Packet> later = new ArrayList<>();
            for (Packet p : snow) {
                fall(p, act, free, played);
            }
            for (Packet p : packets) {
                if (p.act == act && p.snow) {
                    later.add(p);
                } else if (p.act == act) {
                    fall(p, act, free, played);
                }
            }
            snow = later;
        }
        return played;
    }

    private Played play() {
        return play(packets(0), now.bucket);
    }

    private void fall(Packet p, int act, int[] free, Played played) {
        int seat = now.slates[p.slate].seat;
        if (now.umbrella[seat]) {
            for (int other : new int[] {seat - 1, seat + 1}) {
                if (other >= 0 && other < 96 && other / 12 == seat / 12) {
                    land(p, act, other, p.drops / 3, free, played);
                }
            }
        } else {
            land(p, act, seat, p.drops, free, played);
        }
    }

    private void land(Packet p, int act, int seat, int drops, int[] free, Played played) {
        for (int drop = 0; drop < drops; drop++) {
            if (free[seat] > 0) {
                free[seat]--;
            } else {
                played.wet[act][seat]++;
                played.byNote[p.note]++;
                played.bySlate[p.slate]++;
            }
        }
    }

    private int pay(int act, Played played) {
        int sum = 0;
        for (Guest g : now.guests) {
            if (g != null && g.seats[act] != 255 && played.wet[act][g.seats[act]] == 0) {
                int seat = g.seats[act];
                sum += PlainLaw.amount(law, 'q', PlainLaw.letters("a", act, "r", now.rain[act], "y", seat / 12,
                        "x", seat % 12, "o", now.mould[seat]), 999);
            }
        }
        return sum;
    }

    // ---- the calls

    private static boolean in(int n, int low, int high) {
        return low <= n && n <= high;
    }

    boolean seat(int row, int place, boolean umbrella, int bucket) {
        if (!in(row, 0, 7) || !in(place, 0, 11) || !in(bucket, 0, 99)) {
            return false;
        }
        now.umbrella[12 * row + place] = umbrella;
        now.bucket[12 * row + place] = bucket;
        return true;
    }

    boolean slate(int k, int row, int place, int low, int high) {
        if (!in(k, 0, 15) || !in(row, 0, 7) || !in(place, 0, 11) || !in(low, 0, 47) || !in(high, low, 47)) {
            return false;
        }
        Slate s = new Slate();
        s.seat = 12 * row + place;
        s.low = low;
        s.high = high;
        now.slates[k] = s;
        return true;
    }

    boolean nail(int k, boolean is) {
        if (!in(k, 0, 15) || now.slates[k] == null || now.slates[k].nailed == is) {
            return false;
        }
        now.slates[k].nailed = is;
        return true;
    }

    boolean rain(int act, int n) {
        if (!in(act, 0, 3) || !in(n, 0, 9)) {
            return false;
        }
        now.rain[act] = n;
        return true;
    }

    private Guest told(int g) {
        return in(g, 0, 9) ? now.guests[g] : null;
    }

    boolean guest(int g, int rank) {
        if (!in(g, 0, 9) || !in(rank, 1, 99)) {
            return false;
        }
        now.guests[g] = new Guest();
        now.guests[g].rank = rank;
        return true;
    }

    boolean sits(int g, int act, int row, int place) {
        if (told(g) == null || !in(act, 0, 3)) {
            return false;
        }
        if (row == -1) {
            now.guests[g].seats[act] = 255;
            return true;
        }
        if (!in(row, 0, 7) || !in(place, 0, 11)) {
            return false;
        }
        for (int other = 0; other < 10; other++) {
            if (other != g && now.guests[other] != null && now.guests[other].seats[act] == 12 * row + place) {
                return false;
            }
        }
        now.guests[g].seats[act] = 12 * row + place;
        return true;
    }

    int feed(int a, int b, int c, int d, int e) {
        if (tape.size() > 200) {
            return -1;
        }
        for (int word : new int[] {a, b, c, d, e}) {
            for (int i = 3; i >= 0; i--) {
                tape.addLast((int) ((word & 0xffffffffL) >> (8 * i) & 0xff));
            }
        }
        return tape.size();
    }

    private int[] take(int n) {
        int[] taken = new int[n];
        for (int i = 0; i < n; i++) {
            taken[i] = tape.removeFirst();
        }
        tape.clear();
        return taken;
    }

    private String takeText(int n) {
        StringBuilder text = new StringBuilder();
        for (int b : take(n)) {
            text.append((char) b);
        }
        return text.toString();
    }

    int score(int n) {
        if (!in(n, 1, 200) || tape.size() < n) {
            return -1;
        }
        String text = takeText(n);
        int fault = scoreFault(text);
        if (fault != 0) {
            return fault;
        }
        notes = new ArrayList<>();
        int bar = 0;
        int act = 0;
        for (String actText : text.split("/")) {
            for (String barText : actText.split("\\|")) {
                for (String noteText : barText.split(",")) {
                    Note note = new Note();
                    int x = noteText.indexOf('x');
                    note.voice = "satb".indexOf(noteText.charAt(0));
                    note.pitch = Integer.parseInt(noteText.substring(1, x));
                    note.length = Integer.parseInt(noteText.substring(x + 1));
                    note.bar = bar;
                    note.act = act;
                    notes.add(note);
                }
                bar++;
            }
            act++;
        }
        bars = bar;
        acts = act;
        return notes.size();
    }

    /** Sign by sign: which may stand there. */
    private static int scoreFault(String text) {
        String state = "voice";
        int noteCount = 0;
        int barCount = 1;
        int actCount = 1;
        int firstDigit = 0;
        for (int at = 0; at <= text.length(); at++) {
            char c = at < text.length() ? text.charAt(at) : '\0';
            boolean end = at == text.length();
            boolean digit = !end && c >= '0' && c <= '9';
            if (state.equals("voice") && !end && "satb".indexOf(c) >= 0) {
                noteCount++;
                if (noteCount > 32) {
                    return -4000 - at;
                }
                state = "first";
            } else if (state.equals("first") && digit) {
                firstDigit = c - '0';
                state = "second";
            } else if (state.equals("second") && digit) {
                if (10 * firstDigit + c - '0' > 47) {
                    return -3000 - (at - 1);
                }
                state = "x";
            } else if ((state.equals("second") || state.equals("x")) && c == 'x' && !end) {
                state = "length";
            } else if (state.equals("length") && digit && c != '0') {
                state = "mark";
            } else if (state.equals("mark") && end) {
                return 0;
            } else if (state.equals("mark") && c == ',') {
                state = "voice";
            } else if (state.equals("mark") && (c == '|' || c == '/')) {
                barCount++;
                actCount += c == '/' ? 1 : 0;
                if (barCount > 12 || actCount > 4) {
                    return -6000 - at;
                }
                state = "voice";
            } else {
                return -1000 - at;
            }
        }
        throw new IllegalStateException("past the end");
    }

    int law(int n) {
        if (!in(n, 1, 200) || tape.size() < n) {
            return -1;
        }
        String text = takeText(n);
        int fault = PlainLaw.fault(text);
        if (fault != 0) {
            return fault;
        }
        law = PlainLaw.parse(text);
        return law.size();
    }

    int note(int i, int what) {
        if (!in(i, 0, notes.size() - 1) || !in(what, 0, 4)) {
            return -1;
        }
        Note n = notes.get(i);
        return new int[] {n.voice, n.pitch, n.length, n.bar, n.act}[what];
    }

    int drops(int i, int k) {
        if (!in(i, 0, notes.size() - 1) || !in(k, 0, 15) || now.slates[k] == null) {
            return -1;
        }
        for (Packet p : packets(0)) {
            if (p.note == i && p.slate == k) {
                return p.drops;
            }
        }
        return 0;
    }

    int wet(int row, int place, int act) {
        if (!in(row, 0, 7) || !in(place, 0, 11) || !in(act, 0, 4)) {
            return -1;
        }
        Played played = play();
        int sum = 0;
        for (int a = 0; a < 4; a++) {
            sum += act == 4 || act == a ? played.wet[a][12 * row + place] : 0;
        }
        return sum;
    }

    int guestWet(int g, int act) {
        if (told(g) == null || !in(act, 0, 4)) {
            return -1;
        }
        Played played = play();
        return act == 4 ? played.guestWet(told(g)) : played.guestWet(told(g), act);
    }

    int house(int what, int i) {
        Played played = play();
        if (what == 0 && in(i, 0, notes.size() - 1)) {
            return played.byNote[i];
        }
        if (what == 1 && in(i, 0, 15) && now.slates[i] != null) {
            return played.bySlate[i];
        }
        if (what == 2 && in(i, 0, 3)) {
            int sum = 0;
            for (int j = 0; j < notes.size(); j++) {
                sum += notes.get(j).voice == i ? played.byNote[j] : 0;
            }
            return sum;
        }
        return what == 3 && in(i, 0, 3) ? Arrays.stream(played.wet[i]).sum() : -1;
    }

    private List<Integer> toldOf(int guests) {
        List<Integer> list = new ArrayList<>();
        for (int g = 0; g < 32; g++) {
            if ((guests >>> g & 1) == 1) {
                if (told(g) == null) {
                    return null;
                }
                list.add(g);
            }
        }
        return list;
    }

    int seated(int act, int guests, int n, int what) {
        List<Integer> who = toldOf(guests);
        if (!in(act, 0, 3) || who == null || !in(who.size(), 1, 8) || n != who.size() || tape.size() < n) {
            return -1;
        }
        if (what != 10 && what != 11 && !who.contains(what)) {
            return -1;
        }
        int[] seats = take(n);
        for (int j = 0; j < n; j++) {
            if (seats[j] > 95) {
                return -2;
            }
            for (int h = 0; h < j; h++) {
                if (seats[h] == seats[j]) {
                    return -2;
                }
            }
            for (int g = 0; g < 10; g++) {
                if (now.guests[g] != null && !who.contains(g) && now.guests[g].seats[act] == seats[j]) {
                    return -2;
                }
            }
        }
        Arrays.sort(seats);
        int[] best = new int[n + 1];
        best[n] = Integer.MAX_VALUE;
        arrange(act, who, seats, new int[n], 0, play(), best);
        if (what == 11) {
            for (int j = 0; j < n; j++) {
                now.guests[who.get(j)].seats[act] = best[j];
            }
        }
        return what >= 10 ? best[n] : best[who.indexOf(what)];
    }

    private void arrange(int act, List<Integer> who, int[] seats, int[] row, int at, Played played, int[] best) {
        if (at == row.length) {
            int sum = 0;
            for (int j = 0; j < at; j++) {
                sum += now.guests[who.get(j)].rank * played.wet[act][row[j]];
            }
            if (sum < best[at]) {
                System.arraycopy(row, 0, best, 0, at);
                best[at] = sum;
            }
            return;
        }
        for (int seat : seats) {
            boolean used = false;
            for (int j = 0; j < at; j++) {
                used |= row[j] == seat;
            }
            if (!used) {
                row[at] = seat;
                arrange(act, who, seats, row, at + 1, played, best);
            }
        }
    }

    int transposed(int g, int what) {
        if (told(g) == null || !in(what, 0, 1) || notes.isEmpty()) {
            return -100;
        }
        int best = 100;
        int least = Integer.MAX_VALUE;
        for (int shift = -12; shift <= 12; shift++) {
            boolean can = true;
            for (Note n : notes) {
                can &= in(n.pitch + shift, 0, 47);
            }
            if (!can) {
                continue;
            }
            int wet = play(packets(shift), now.bucket).guestWet(told(g));
            boolean better = wet < least || wet == least && (Math.abs(shift) < Math.abs(best)
                    || Math.abs(shift) == Math.abs(best) && shift > best);
            if (better) {
                least = wet;
                best = shift;
            }
        }
        return what == 0 ? best : least;
    }

    int leftOut(int g, int act, int what) {
        if (told(g) == null || !in(act, 0, 3)) {
            return -1;
        }
        List<Integer> of = new ArrayList<>();
        for (int i = 0; i < notes.size(); i++) {
            if (notes.get(i).act == act) {
                of.add(i);
            }
        }
        if (of.size() > 12) {
            return SKIPPED;
        }
        List<Packet> all = packets(0);
        List<Integer> best = null;
        for (int set = 0; set < 1 << of.size(); set++) {
            List<Integer> out = new ArrayList<>();
            for (int j = 0; j < of.size(); j++) {
                if ((set >> j & 1) == 1) {
                    out.add(of.get(j));
                }
            }
            if (best != null && (out.size() > best.size() || out.size() == best.size() && !isLess(out, best))) {
                continue;
            }
            List<Packet> sung = new ArrayList<>(all);
            sung.removeIf(p -> out.contains(p.note));
            if (play(sung, now.bucket).guestWet(told(g), act) == 0) {
                best = out;
            }
        }
        if (best == null) {
            return -2;
        }
        return what == -1 ? best.size() : in(what, 0, best.size() - 1) ? best.get(what) : -2;
    }

    private static boolean isLess(List<Integer> a, List<Integer> b) {
        for (int j = 0; j < a.size(); j++) {
            if (!a.get(j).equals(b.get(j))) {
                return a.get(j) < b.get(j);
            }
        }
        return false;
    }

    int nails(int guests, int what) {
        List<Integer> who = toldOf(guests);
        if (who == null || who.isEmpty() || !in(what, 0, 1)) {
            return -1;
        }
        List<Packet> all = packets(0);
        int best = -1;
        for (int set = 0; set < 65536; set++) {
            boolean can = best < 0 || Integer.bitCount(set) < Integer.bitCount(best);
            for (int k = 0; k < 16 && can; k++) {
                can = (set >> k & 1) == 0 || now.slates[k] != null && !now.slates[k].nailed;
            }
            if (!can) {
                continue;
            }
            int nailed = set;
            List<Packet> left = new ArrayList<>(all);
            left.removeIf(p -> (nailed >> p.slate & 1) == 1);
            Played played = play(left, now.bucket);
            int wet = 0;
            for (int g : who) {
                wet += played.guestWet(told(g));
            }
            if (wet == 0) {
                best = set;
            }
        }
        return what == 0 ? Integer.bitCount(best) : best;
    }

    int sung(int act, int n, int what) {
        if (!in(act, 0, acts - 1) || !in(n, 1, 20) || !in(what, 0, 2) || tape.size() < 2 * n) {
            return -1;
        }
        int[] told = take(2 * n);
        for (int j = 0; j < n; j++) {
            if (told[2 * j] > 95) {
                return -2;
            }
        }
        int first = 99;
        int last = -1;
        for (Note note : notes) {
            if (note.act == act) {
                first = Math.min(first, note.bar);
                last = Math.max(last, note.bar);
            }
        }
        List<Packet> all = packets(0);
        int sets = 0;
        int least = -2;
        int common = -2;
        for (int set = 0; set < 1 << (last - first + 1); set++) {
            int barsSung = set << first;
            List<Packet> sung = new ArrayList<>(all);
            sung.removeIf(p -> p.act != act || (barsSung >> notes.get(p.note).bar & 1) == 0);
            Played played = play(sung, now.bucket);
            boolean just = true;
            for (int j = 0; j < n; j++) {
                just &= played.wet[act][told[2 * j]] == told[2 * j + 1];
            }
            if (just) {
                least = sets == 0 ? set : least;
                common = sets == 0 ? set : common & set;
                sets++;
            }
        }
        return what == 0 ? sets : what == 1 ? least : common;
    }

    private int rankTimesWet(Played played) {
        int sum = 0;
        for (Guest g : now.guests) {
            sum += g == null ? 0 : g.rank * played.guestWet(g);
        }
        return sum;
    }

    int sponge(int n, int what) {
        if (!in(n, 1, 99) || !in(what, 0, 1)) {
            return -1;
        }
        List<Packet> all = packets(0);
        int without = rankTimesWet(play(all, now.bucket));
        int least = Integer.MAX_VALUE;
        int best = -1;
        for (int seat = 0; seat < 96; seat++) {
            int[] buckets = now.bucket.clone();
            buckets[seat] += n;
            int sum = rankTimesWet(play(all, buckets));
            if (sum < least) {
                least = sum;
                best = seat;
            }
        }
        return what == 0 ? best : without - least;
    }

    int paid(int act) {
        if (!in(act, 0, 4)) {
            return -1;
        }
        Played played = play();
        return act < 4 ? pay(act, played) : pay(0, played) + pay(1, played) + pay(2, played) + pay(3, played);
    }

    int perform() {
        if (notes.isEmpty()) {
            return -1;
        }
        int more = paid(4);
        Played played = play();
        now.paid += more;
        for (int g = 0; g < 10; g++) {
            now.guestWet[g] += now.guests[g] == null ? 0 : played.guestWet(now.guests[g]);
        }
        for (int k = 0; k < 16; k++) {
            now.ledSlate[k] += played.bySlate[k];
        }
        for (int i = 0; i < 32; i++) {
            now.ledNote[i] += played.byNote[i];
        }
        int house = 0;
        for (int seat = 0; seat < 96; seat++) {
            int wet = played.wet[0][seat] + played.wet[1][seat] + played.wet[2][seat] + played.wet[3][seat];
            house += wet;
            int grown = PlainLaw.amount(law, 'm', PlainLaw.letters("y", seat / 12, "x", seat % 12,
                    "o", now.mould[seat], "w", wet), 9);
            now.mould[seat] = Math.min(99, now.mould[seat] + grown);
        }
        now.evenings++;
        return house;
    }

    int soFar(int what) {
        if (in(what, 10, 19)) {
            return told(what - 10) == null ? -1 : now.guestWet[what - 10];
        }
        if (in(what, 20, 35)) {
            return now.ledSlate[what - 20];
        }
        if (in(what, 40, 71)) {
            return now.ledNote[what - 40];
        }
        return what == 0 ? now.evenings : what == 1 ? now.paid : -1;
    }

    boolean seed(int x) {
        if (!in(x, 0, 65535)) {
            return false;
        }
        now.x = x;
        return true;
    }

    int draw() {
        int sum = 0;
        for (int act = 0; act < 4; act++) {
            now.x = (int) ((25173L * now.x + 13849L) % 65536L);
            now.rain[act] = now.x % 10;
            sum += now.rain[act];
        }
        return sum;
    }

    int keep() {
        kept = now.copy();
        return now.evenings;
    }

    boolean undo() {
        if (kept == null) {
            return false;
        }
        now = kept.copy();
        return true;
    }

    int check(int act, int row, int n) {
        if (!in(act, 0, 3) || !in(row, 0, 7) || !in(n, 0, 12) || tape.size() < 4 * n) {
            return -2;
        }
        int[] bytes = take(4 * n);
        Played played = play();
        for (int j = 0; j < n; j++) {
            int number = bytes[4 * j] << 24 | bytes[4 * j + 1] << 16 | bytes[4 * j + 2] << 8 | bytes[4 * j + 3];
            if (number != played.wet[act][12 * row + j]) {
                return j;
            }
        }
        return -1;
    }

    int count(int what) {
        int slates = 0;
        int nailed = 0;
        int guests = 0;
        for (int k = 0; k < 16; k++) {
            slates |= now.slates[k] != null ? 1 << k : 0;
            nailed |= now.slates[k] != null && now.slates[k].nailed ? 1 << k : 0;
        }
        for (int g = 0; g < 10; g++) {
            guests |= now.guests[g] != null ? 1 << g : 0;
        }
        if (in(what, 0, 8)) {
            return new int[] {notes.size(), bars, acts, law.size(), tape.size(), now.x, slates, nailed, guests}[what];
        }
        if (in(what, 10, 13)) {
            return now.rain[what - 10];
        }
        if (in(what, 100, 195)) {
            return now.mould[what - 100];
        }
        if (in(what, 200, 295)) {
            return now.bucket[what - 200] + (now.umbrella[what - 200] ? 1000 : 0);
        }
        if (in(what, 300, 339)) {
            Guest g = now.guests[(what - 300) % 10];
            return g == null ? -1 : g.seats[(what - 300) / 10];
        }
        return -1;
    }
}
