import java.util.ArrayList;
import java.util.List;
import java.util.Map;
import java.util.Random;
import java.util.TreeMap;

/** Runs of drawn calls (the same ones each time) on RainOpera and on PlainOpera: all answers must be alike. */
public final class RandomRunsTest {
    private final Random random;
    private final BothOperas both = new BothOperas();
    private final PlainOpera plain = both.plain;
    /** How many of the slates and notes a run has: few ones let all be tried fast. */
    private final int slates;
    private final int notes;
    private final int seats;

    private static final Map<String, Integer> ASKED = new TreeMap<>();

    private RandomRunsTest(long seed) {
        random = new Random(seed);
        slates = random.nextInt(12) == 0 ? 16 : 1 + random.nextInt(8);
        notes = random.nextInt(8) == 0 ? 32 : 1 + random.nextInt(12);
        seats = 2 + random.nextInt(10);
    }

    public static void main(String[] args) {
        int runs = args.length > 0 ? Integer.parseInt(args[0]) : 500;
        long first = args.length > 1 ? Long.parseLong(args[1]) : 1;
        int wrong = 0;
        for (long seed = first; seed < first + runs && wrong < 3; seed++) {
            RandomRunsTest run = new RandomRunsTest(seed);
            run.go();
            if (run.both.isWrong()) {
                wrong++;
                System.out.println("run " + seed + ":");
                run.both.tell();
            }
        }
        System.out.println(runs + " runs, calls: " + ASKED);
        System.out.println(wrong == 0 ? "all answers are alike" : wrong + " runs are not alike");
        if (wrong != 0) {
            System.exit(1);
        }
    }

    private void go() {
        if (random.nextInt(20) != 0) {
            furnish();
        }
        boolean isAllAsked = random.nextInt(3) != 0;
        int most = isAllAsked ? 140 : BothOperas.PROMISED_CALLS;
        while (both.calls() < most && !both.isWrong()) {
            step();
        }
        if (isAllAsked) {
            askAll("soFar", -1, 2, 9, 36, 39, 72);
            askAll("count", -1, 14, 99, 196, 199, 296, 299, 340);
        }
    }

    private void furnish() {
        law(usefulLaw());
        score(randomScore());
        for (int k = 0; k < slates; k++) {
            int low = random.nextInt(30);
            call("slate", random.nextInt(16), 0, random.nextInt(seats), low, low + random.nextInt(48 - low));
        }
        for (int g = 0; g < 1 + random.nextInt(10); g++) {
            call("guest", g, 1 + random.nextInt(99));
            for (int act = 0; act < 4; act++) {
                call("sits", g, act, random.nextInt(5) == 0 ? -1 : 0, random.nextInt(seats));
            }
        }
    }

    private void askAll(String name, int... bounds) {
        for (int j = 0; j < bounds.length; j += 2) {
            for (int what = bounds[j]; what <= bounds[j + 1] && !both.isWrong(); what++) {
                call(name, what);
            }
        }
    }

    private int number(int from, int to) {
        int odd = random.nextInt(40);
        if (odd == 0) {
            return from - 1;
        }
        if (odd == 1) {
            return to + 1;
        }
        if (odd == 2) {
            return random.nextInt();
        }
        return from + random.nextInt(to - from + 1);
    }

    private int row() {
        return random.nextInt(6) == 0 ? number(0, 7) : 0;
    }

    private int place() {
        return random.nextInt(6) == 0 ? number(0, 11) : random.nextInt(seats);
    }

    private int seatByte() {
        return random.nextInt(60) == 0 ? random.nextInt(256) : random.nextInt(8) == 0 ? random.nextInt(96)
                : random.nextInt(seats);
    }

    /** A told one, mostly. */
    private int someGuest() {
        int told = plain.count(8);
        int g = number(0, 9);
        for (int i = 0; i < 10 && random.nextInt(15) != 0 && (g < 0 || g > 9 || (told >> g & 1) == 0); i++) {
            g = random.nextInt(10);
        }
        return g;
    }

    /** Of one that is WET, if that is found soon, with all places asked. */
    private void leftOut() {
        int g = someGuest();
        int act = number(0, 3);
        for (int i = 0; i < 12 && plain.guestWet(g, act) <= 0; i++) {
            g = someGuest();
            act = number(0, 3);
        }
        int fewest = plain.leftOut(g, act, -1);
        for (int what = -2; what <= Math.min(12, fewest); what++) {
            call("leftOut", g, act, what);
        }
        call("leftOut", g, act, number(-1, 3));
    }

    private void step() {
        switch (random.nextInt(34)) {
            case 0: case 1:
                call("seat", row(), place(), random.nextInt(3) == 0 ? 1 : 0, random.nextInt(2) * number(0, 99) / 3);
                break;
            case 2: case 3: {
                int low = number(0, 47);
                call("slate", random.nextInt(6) == 0 ? number(0, 15) : random.nextInt(slates), row(), place(), low / 2,
                        number(Math.max(0, Math.min(47, low)), 47));
                break;
            }
            case 4: call("nail", number(0, 15), random.nextInt(2)); break;
            case 5: call("rain", number(0, 3), number(0, 9)); break;
            case 6:
                if (random.nextInt(4) == 0) {
                    call("guest", number(0, 9), number(1, 99));
                }
                break;
            case 7: case 8: case 9:
                call("sits", number(0, 9), number(0, 3), random.nextInt(10) == 0 ? -1 : row(), place());
                break;
            case 10: score(random.nextInt(3) == 0 ? mutated(randomScore()) : randomScore()); break;
            case 11: law(random.nextInt(3) == 0 ? wildLaw() : usefulLaw()); break;
            case 12:
                law(random.nextInt(8) == 0 ? mutated(manyClauses()) : mutated(wildLaw()));
                law(usefulLaw());
                break;
            case 13: call("note", number(0, notes - 1), number(0, 4)); break;
            case 14: call("drops", number(0, notes - 1), number(0, 15)); break;
            case 15: case 16: call("wet", row(), place(), number(0, 4)); break;
            case 17: call("guestWet", someGuest(), number(0, 4)); break;
            case 18: call("house", number(0, 3), random.nextInt(3) == 0 ? number(0, 31) : number(0, 4)); break;
            case 19: case 20: seated(); break;
            case 21: call("transposed", someGuest(), number(0, 1)); break;
            case 22: case 23: leftOut(); break;
            case 24: {
                int who = plain.count(8) & random.nextInt();
                call("nails", random.nextInt(20) == 0 ? number(1, 1023) : who, number(0, 1));
                break;
            }
            case 25: case 26: sung(); break;
            case 27: call("sponge", number(1, 99), number(0, 1)); break;
            case 28: call("paid", number(0, 4)); break;
            case 29: call("perform"); break;
            case 30: call("seed", number(0, 65535)); call("draw"); break;
            case 31: call(random.nextBoolean() ? "keep" : "undo"); break;
            case 32: check(); break;
            default: odd(); break;
        }
    }

    private void odd() {
        switch (random.nextInt(7)) {
            case 0: call("count", number(0, 400)); break;
            case 1: call("soFar", number(0, 80)); break;
            case 2: call("score", number(0, 201)); break;
            case 3: call("law", number(0, 201)); break;
            case 4: call("feed", random.nextInt(), random.nextInt(), random.nextInt(), random.nextInt(), random.nextInt()); break;
            case 5: call("draw"); break;
            default: call("check", number(0, 3), number(0, 7), number(0, 12)); break;
        }
    }

    // ---- what is fed

    /** Drawn bytes fill up the last twenty. */
    private void feed(byte[] bytes) {
        byte[] all = new byte[(bytes.length + 19) / 20 * 20];
        random.nextBytes(all);
        System.arraycopy(bytes, 0, all, 0, bytes.length);
        for (int at = 0; at < all.length; at += 20) {
            call("feed", BothOperas.words(all, at));
        }
    }

    private static byte[] bytes(String text) {
        byte[] bytes = new byte[text.length()];
        for (int j = 0; j < bytes.length; j++) {
            bytes[j] = (byte) text.charAt(j);
        }
        return bytes;
    }

    private void emptyTape() {
        if (plain.count(4) > 0 && random.nextInt(30) != 0) {
            call("check", 0, 0, 0);
        }
    }

    private void score(String text) {
        emptyTape();
        feed(bytes(text));
        call("score", text.length());
    }

    private void law(String text) {
        emptyTape();
        feed(bytes(text));
        call("law", text.length());
    }

    private void seated() {
        int who = plain.count(8) & random.nextInt();
        int n = Integer.bitCount(who);
        if (n > 6 && random.nextInt(10) != 0) {
            return;
        }
        int act = number(0, 3);
        byte[] seat = new byte[Math.max(1, n)];
        List<Integer> free = new ArrayList<>();
        for (int s = 0; s < 14; s++) {
            free.add(s);
        }
        for (int g = 0; g < 10 && random.nextInt(10) != 0; g++) {
            int taken = (who >> g & 1) == 1 || act < 0 || act > 3 ? -1 : plain.count(300 + 10 * act + g);
            free.remove((Integer) taken);
        }
        for (int j = 0; j < seat.length; j++) {
            boolean odd = free.isEmpty() || random.nextInt(40) == 0;
            seat[j] = (byte) (odd ? seatByte() : free.remove(random.nextInt(free.size())).intValue());
        }
        emptyTape();
        feed(seat);
        int what = random.nextInt(3) == 0 ? number(0, 9) : random.nextInt(2) == 0 ? 10 : 11;
        if (random.nextInt(2) == 0 && n > 0) {
            what = Integer.numberOfTrailingZeros(who);
        }
        call("seated", act, who, random.nextInt(20) == 0 ? number(0, 8) : n, what);
    }

    /** Told is what is WET as it is, for many a SEAT: then some set is there. */
    private void sung() {
        int act = plain.count(2) > 0 ? number(0, plain.count(2) - 1) : 0;
        int n = random.nextInt(30) == 0 ? number(1, 20) : 1 + random.nextInt(3);
        byte[] pairs = new byte[Math.max(1, Math.min(40, 2 * n))];
        for (int j = 0; j + 1 < pairs.length; j += 2) {
            int seat = seatByte();
            pairs[j] = (byte) seat;
            int wet = plain.wet(seat / 12, seat % 12, act);
            pairs[j + 1] = (byte) (random.nextInt(3) == 0 ? 0 : random.nextInt(3) == 0 ? random.nextInt(20) : wet);
        }
        emptyTape();
        feed(pairs);
        call("sung", act, n, number(0, 2));
    }

    private void check() {
        int act = number(0, 3);
        int row = row();
        int n = number(0, 12);
        byte[] numbers = new byte[4 * Math.max(0, Math.min(13, n))];
        for (int j = 0; j < numbers.length / 4; j++) {
            int wet = random.nextInt(20) == 0 ? random.nextInt() : plain.wet(row, j, act);
            for (int b = 0; b < 4; b++) {
                numbers[4 * j + b] = (byte) (wet >> (24 - 8 * b));
            }
        }
        emptyTape();
        feed(numbers);
        call("check", act, row, n);
    }

    // ---- texts

    private char pick(String signs) {
        return signs.charAt(random.nextInt(signs.length()));
    }

    private String randomScore() {
        StringBuilder text = new StringBuilder();
        int most = random.nextInt(40) == 0 ? 33 : notes;
        String marks = random.nextInt(3) == 0 ? ",,,,,|" : random.nextInt(3) == 0 ? "|||/" : ",,,|/";
        for (int i = 0; i < most && text.length() < 195; i++) {
            if (i > 0) {
                text.append(pick(marks));
            }
            int pitch = random.nextInt(50) == 0 ? random.nextInt(60) : random.nextInt(48);
            text.append(pick("satb")).append(pitch).append('x').append(1 + random.nextInt(9));
        }
        return text.toString();
    }

    private String mutated(String text) {
        StringBuilder changed = new StringBuilder(text);
        int at = random.nextInt(text.length());
        switch (random.nextInt(4)) {
            case 0: changed.deleteCharAt(at); break;
            case 1: changed.setCharAt(at, pick("satbx,|/;dmq([!)]<>=+-*%&0123456789vplikryow")); break;
            case 2: changed.insert(at, pick("satbx,|/;dmq([!)]<>=+-*%&0123456789vplikryow")); break;
            default: changed.setLength(at); break;
        }
        if (changed.length() == 0) {
            changed.append((char) random.nextInt(256));
        }
        changed.setLength(Math.min(200, changed.length()));
        return changed.toString();
    }

    private String usefulLaw() {
        StringBuilder law = new StringBuilder();
        String[] drops = {"dl(1=1)", "dl+r(1=1)", "d[p+k]%7(i>2);dl(1=1)", "d9+v*o(1=1)", "dl*l+x(!v=2);d3(b%2=0)",
            "d40/[p%5](1=1)", "dp-k*a(1=1)"};
        String[] snow = {"", "", "s(v=3)", "s(b%2=1)", "s(v=1|p/k>3);s(a=2)", "s(i%3=0&!r=2)"};
        String[] mould = {"", "m1(w>0)", "m2+o/9(w>r)", "mw/5-y(1=1)", "m20(x=3)"};
        String[] pay = {"", "q10+y(1=1)", "q100*a+r-o(x<5);q9(1=1)", "q5000(o>0);q7/a(1=1)"};
        for (String[] kind : new String[][] {drops, snow, mould, pay}) {
            String clause = kind[random.nextInt(kind.length)];
            if (!clause.isEmpty()) {
                law.append(law.length() == 0 ? "" : ";").append(clause);
            }
        }
        return law.toString();
    }

    private String wildLaw() {
        StringBuilder law = new StringBuilder();
        int clauses = random.nextInt(4) == 0 ? 1 + random.nextInt(15) : 1 + random.nextInt(4);
        for (int c = 0; c < clauses; c++) {
            char kind = pick("ddsmq");
            String clause = kind + (kind == 's' ? "" : amount(0)) + "(" + condition(1) + ")";
            if (law.length() + clause.length() < 199) {
                law.append(law.length() == 0 ? "" : ";").append(clause);
            }
        }
        return law.length() == 0 ? "s(!!!!!v=1)" : law.toString();
    }

    private String manyClauses() {
        StringBuilder law = new StringBuilder("d1(v=" + random.nextInt(3) + ")");
        for (int c = 1; c < 13 + random.nextInt(4); c++) {
            law.append(";").append("s").append("(").append(pick("vplk")).append(pick("<>=")).append("1)");
        }
        return law.toString();
    }

    private String amount(int depth) {
        StringBuilder text = new StringBuilder(factor(depth));
        while (random.nextInt(3) == 0) {
            text.append(pick("+-*/%")).append(factor(depth));
        }
        return text.toString();
    }

    private String factor(int depth) {
        int kind = random.nextInt(10);
        if (kind < 2 && depth < 7) {
            return "[" + amount(depth + 1) + "]";
        }
        if (kind < 5) {
            return Integer.toString(random.nextInt(random.nextInt(8) == 0 ? 200000 : 10));
        }
        return Character.toString(pick("vplibkaryxow"));
    }

    private String condition(int depth) {
        StringBuilder text = new StringBuilder(piece(depth));
        while (random.nextInt(3) == 0) {
            text.append(pick("&|")).append(piece(depth));
        }
        return text.toString();
    }

    private String piece(int depth) {
        int kind = random.nextInt(8);
        if (kind < 2 && depth < 8) {
            return "!" + piece(depth + 1);
        }
        if (kind == 2 && depth < 8) {
            return "(" + condition(depth + 1) + ")";
        }
        return amount(depth) + pick("<>=") + amount(depth);
    }

    private void call(String name, int... a) {
        if (both.calls() < BothOperas.PROMISED_CALLS) {
            ASKED.merge(name, 1, Integer::sum);
            both.call(name, a);
        }
    }
}
