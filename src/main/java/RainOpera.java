import java.util.Arrays;

/** A theatre through whose roof it rains by what is sung. */
public final class RainOpera {
    public static final int NONE = -1;

    private static final int ROWS = 8;
    private static final int PLACES = 12;
    private static final int SEATS = 96;
    private static final int SLATES = 16;
    private static final int ACTS = 4;
    private static final int GUESTS = 10;
    private static final int PITCHES = 48;
    private static final int NOTES = 32;
    private static final int BARS = 12;
    private static final int CLAUSES = 14;
    private static final int TAPE = 220;
    private static final int TEXT = 200;
    private static final int TOLD_SEATS = 20;
    private static final int SEATED_GUESTS = 8;
    private static final int FARTHEST_SHIFT = 12;
    private static final int MOST_HELD = 99;

    /** The seat of a guest that is out. */
    private static final int OUT = 255;
    private static final int CANNOT = -2;
    private static final int NO_SHIFT = -100;

    private static final int CANNOT_STAND = 1;
    private static final int TOO_MANY_DIGITS = 2;
    private static final int TOO_HIGH = 3;
    private static final int TOO_MANY = 4;
    private static final int TOO_DEEP = 5;
    private static final int NO_MORE_BARS = 6;

    private static final String VOICE_SIGNS = "satb";
    private static final String CLAUSE_SIGNS = "dsmq";
    private static final String LETTER_SIGNS = "vplibkaryxow";
    private static final String OPERATOR_SIGNS = "+-*/%<>=";

    private static final int DROP_CLAUSE = 0;
    private static final int SNOW_CLAUSE = 1;
    private static final int MOULD_CLAUSE = 2;
    private static final int PAY_CLAUSE = 3;

    private final Theatre theatre = new Theatre();
    private final House kept = new House();
    private boolean isKept;
    /** A text is read into a spare one, so that a fault leaves the one before as it is. */
    private Score spareScore = new Score();
    private final LawReader lawReader = new LawReader();
    private final Tape tape = new Tape();
    /** The evening as it would be now; it is reckoned anew only when something it hangs on has changed. */
    private final Evening evening = new Evening();
    private boolean isStale = true;
    private final Seating seating = new Seating();
    private final Nailing nailing = new Nailing();
    private final SungBars sungBars = new SungBars();
    private final Weights noteWeights = new Weights(NOTES);

    public RainOpera() {
    }

    public boolean seat(int row, int place, boolean umbrella, int bucket) {
        int seat = seatNumber(row, place);
        if (seat == NONE || bucket < 0 || bucket > MOST_HELD) {
            return false;
        }
        theatre.house.umbrella[seat] = umbrella;
        theatre.house.bucket[seat] = bucket;
        isStale = true;
        return true;
    }

    public boolean slate(int k, int row, int place, int low, int high) {
        int seat = seatNumber(row, place);
        if (k < 0 || k >= SLATES || seat == NONE || low < 0 || high >= PITCHES || low > high) {
            return false;
        }
        theatre.house.putSlate(k, seat, low, high);
        isStale = true;
        return true;
    }

    public boolean nail(int k, boolean is) {
        House house = theatre.house;
        if (!house.isSlate(k) || house.isNailed(k) == is) {
            return false;
        }
        house.nailedSlates ^= 1 << k;
        isStale = true;
        return true;
    }

    public boolean rain(int act, int n) {
        if (!isAct(act) || n < 0 || n > 9) {
            return false;
        }
        theatre.house.rain[act] = n;
        isStale = true;
        return true;
    }

    public boolean guest(int g, int rank) {
        if (g < 0 || g >= GUESTS || rank < 1 || rank > 99) {
            return false;
        }
        theatre.house.putGuest(g, rank);
        return true;
    }

    public boolean sits(int g, int act, int row, int place) {
        House house = theatre.house;
        int seat = row == NONE ? OUT : seatNumber(row, place);
        if (!house.isGuest(g) || !isAct(act) || seat == NONE) {
            return false;
        }
        int sitter = house.guestOn(act, seat);
        if (sitter != NONE && sitter != g) {
            return false;
        }
        house.sitsOn[act * GUESTS + g] = seat;
        return true;
    }

    public int feed(int a, int b, int c, int d, int e) {
        if (tape.size + 20 > TAPE) {
            return NONE;
        }
        tape.append(a);
        tape.append(b);
        tape.append(c);
        tape.append(d);
        tape.append(e);
        return tape.size;
    }

    public int score(int n) {
        if (n < 1 || n > TEXT || n > tape.size) {
            return NONE;
        }
        tape.startReading(n);
        int answer = spareScore.readFrom(tape);
        tape.size = 0;
        if (answer > 0) {
            Score before = theatre.score;
            theatre.score = spareScore;
            spareScore = before;
            isStale = true;
        }
        return answer;
    }

    public int law(int n) {
        if (n < 1 || n > TEXT || n > tape.size) {
            return NONE;
        }
        tape.startReading(n);
        int answer = lawReader.readLaw(tape);
        tape.size = 0;
        if (answer > 0) {
            Law before = theatre.law;
            theatre.law = lawReader.law;
            lawReader.law = before;
            isStale = true;
        }
        return answer;
    }

    public int note(int i, int what) {
        Score score = theatre.score;
        if (i < 0 || i >= score.notes) {
            return NONE;
        }
        switch (what) {
            case 0: return score.voice[i];
            case 1: return score.pitch[i];
            case 2: return score.length[i];
            case 3: return score.bar[i];
            case 4: return score.act[i];
            default: return NONE;
        }
    }

    public int drops(int i, int k) {
        if (i < 0 || i >= theatre.score.notes || !theatre.house.isSlate(k)) {
            return NONE;
        }
        refresh();
        return evening.drops[i * SLATES + k];
    }

    public int wet(int row, int place, int act) {
        int seat = seatNumber(row, place);
        if (seat == NONE || !isActOrAll(act)) {
            return NONE;
        }
        refresh();
        return evening.seatWet(seat, act);
    }

    public int guestWet(int g, int act) {
        if (!theatre.house.isGuest(g) || !isActOrAll(act)) {
            return NONE;
        }
        refresh();
        return wetOfGuest(g, act);
    }

    public int house(int what, int i) {
        if (what == 0 && i >= 0 && i < theatre.score.notes) {
            refresh();
            return evening.byNote[i];
        }
        if (what == 1 && theatre.house.isSlate(i)) {
            refresh();
            return evening.bySlate[i];
        }
        if (what == 2 && i >= 0 && i < VOICE_SIGNS.length()) {
            refresh();
            return evening.voiceWet(i, theatre.score);
        }
        if (what == 3 && isAct(i)) {
            refresh();
            return evening.actWet(i);
        }
        return NONE;
    }

    public int seated(int act, int guests, int n, int what) {
        if (!isAct(act) || !areGuests(guests) || n != Integer.bitCount(guests) || n > SEATED_GUESTS || n > tape.size) {
            return NONE;
        }
        boolean isGuestAsked = what >= 0 && what < GUESTS && (guests >> what & 1) == 1;
        if (what != 10 && what != 11 && !isGuestAsked) {
            return NONE;
        }
        tape.size = 0;
        if (!seating.takeSeats(tape, n) || isAnyTaken(act, guests)) {
            return CANNOT;
        }
        refresh();
        seating.solve(theatre.house, guests, evening, act);
        if (what == 11) {
            seating.putInto(theatre.house, act);
        }
        return isGuestAsked ? seating.seatOf(what) : seating.least[0];
    }

    public int transposed(int g, int what) {
        if (!theatre.house.isGuest(g) || what < 0 || what > 1 || theatre.score.notes == 0) {
            return NO_SHIFT;
        }
        int bestShift = 0;
        int least = theatre.shiftedWet(g, 0);
        for (int size = 1; size <= FARTHEST_SHIFT && least > 0; size++) {
            for (int shift = size; shift >= -size; shift -= 2 * size) {
                int wet = theatre.score.canShift(shift) ? theatre.shiftedWet(g, shift) : least;
                if (wet < least) {
                    least = wet;
                    bestShift = shift;
                }
            }
        }
        return what == 0 ? bestShift : least;
    }

    public int leftOut(int g, int act, int what) {
        if (!theatre.house.isGuest(g) || !isAct(act)) {
            return NONE;
        }
        refresh();
        int seat = theatre.house.sitsOn[act * GUESTS + g];
        int need = wetOfGuest(g, act);
        weighNotes(act, seat);
        int fewest = noteWeights.fewest(need);
        if (fewest == NONE) {
            return CANNOT;
        }
        if (what == NONE) {
            return fewest;
        }
        return what < 0 || what >= fewest ? CANNOT : noteWeights.pick(need, what);
    }

    public int nails(int guests, int what) {
        if (!areGuests(guests) || what < 0 || what > 1) {
            return NONE;
        }
        refresh();
        nailing.clear();
        for (int g = 0; g < GUESTS; g++) {
            for (int act = 0; act < ACTS; act++) {
                int wet = (guests >> g & 1) == 1 ? wetOfGuest(g, act) : 0;
                if (wet > 0) {
                    nailing.add(wet, theatre, evening, act, theatre.house.sitsOn[act * GUESTS + g]);
                }
            }
        }
        int bits = nailing.solve();
        return what == 0 ? Integer.bitCount(bits) : bits;
    }

    public int sung(int act, int n, int what) {
        if (act < 0 || act >= theatre.score.acts || n < 1 || n > TOLD_SEATS || what < 0 || what > 2
                || 2 * n > tape.size) {
            return NONE;
        }
        tape.size = 0;
        refresh();
        sungBars.start(theatre.score, act);
        for (int t = 0; t < n; t++) {
            int seat = tape.bytes[2 * t];
            if (seat >= SEATS) {
                return CANNOT;
            }
            sungBars.add(seat, tape.bytes[2 * t + 1], theatre, evening);
        }
        sungBars.solve();
        if (what == 0) {
            return sungBars.sets;
        }
        if (sungBars.sets == 0) {
            return CANNOT;
        }
        return what == 1 ? sungBars.first : sungBars.common;
    }

    public int sponge(int n, int what) {
        if (n < 1 || n > MOST_HELD || what < 0 || what > 1) {
            return NONE;
        }
        refresh();
        int bestSeat = 0;
        int most = 0;
        for (int seat = 0; seat < SEATS; seat++) {
            int less = spongeWorth(seat, n);
            if (less > most) {
                most = less;
                bestSeat = seat;
            }
        }
        return what == 0 ? bestSeat : most;
    }

    public int paid(int act) {
        if (!isActOrAll(act)) {
            return NONE;
        }
        refresh();
        return paidFor(act);
    }

    public int perform() {
        if (theatre.score.notes == 0) {
            return NONE;
        }
        refresh();
        House house = theatre.house;
        house.paidSoFar += paidFor(ACTS);
        for (int g = 0; g < GUESTS; g++) {
            house.guestSoFar[g] += house.isGuest(g) ? wetOfGuest(g, ACTS) : 0;
        }
        for (int k = 0; k < SLATES; k++) {
            house.slateSoFar[k] += evening.bySlate[k];
        }
        for (int i = 0; i < NOTES; i++) {
            house.noteSoFar[i] += evening.byNote[i];
        }
        theatre.growMould(evening);
        house.evenings++;
        isStale = true;
        return evening.houseWet();
    }

    public int soFar(int what) {
        House house = theatre.house;
        if (what == 0) {
            return house.evenings;
        }
        if (what == 1) {
            return house.paidSoFar;
        }
        if (what >= 10 && what < 10 + GUESTS && house.isGuest(what - 10)) {
            return house.guestSoFar[what - 10];
        }
        if (what >= 20 && what < 20 + SLATES) {
            return house.slateSoFar[what - 20];
        }
        if (what >= 40 && what < 40 + NOTES) {
            return house.noteSoFar[what - 40];
        }
        return NONE;
    }

    public boolean seed(int x) {
        if (x < 0 || x > 65535) {
            return false;
        }
        theatre.house.x = x;
        return true;
    }

    public int draw() {
        House house = theatre.house;
        int sum = 0;
        for (int act = 0; act < ACTS; act++) {
            house.x = (25173 * house.x + 13849) & 65535;
            house.rain[act] = house.x % 10;
            sum += house.rain[act];
        }
        isStale = true;
        return sum;
    }

    public int keep() {
        kept.copyFrom(theatre.house);
        isKept = true;
        return kept.evenings;
    }

    public boolean undo() {
        if (!isKept) {
            return false;
        }
        theatre.house.copyFrom(kept);
        isStale = true;
        return true;
    }

    public int check(int act, int row, int n) {
        if (!isAct(act) || row < 0 || row >= ROWS || n < 0 || n > PLACES || 4 * n > tape.size) {
            return CANNOT;
        }
        tape.size = 0;
        refresh();
        for (int place = 0; place < n; place++) {
            if (tape.numberAt(place) != evening.seatWet(row * PLACES + place, act)) {
                return place;
            }
        }
        return NONE;
    }

    public int count(int what) {
        House house = theatre.house;
        switch (what) {
            case 0: return theatre.score.notes;
            case 1: return theatre.score.bars;
            case 2: return theatre.score.acts;
            case 3: return theatre.law.clauses;
            case 4: return tape.size;
            case 5: return house.x;
            case 6: return house.toldSlates;
            case 7: return house.nailedSlates;
            case 8: return house.toldGuests;
            default: return house.countAt(what);
        }
    }

    private static boolean isAct(int act) {
        return act >= 0 && act < ACTS;
    }

    private static boolean isActOrAll(int act) {
        return act >= 0 && act <= ACTS;
    }

    private static int seatNumber(int row, int place) {
        boolean is = row >= 0 && row < ROWS && place >= 0 && place < PLACES;
        return is ? row * PLACES + place : NONE;
    }

    /** Whether these bits are of told guests, of one at least. */
    private boolean areGuests(int guests) {
        return guests != 0 && (guests & ~theatre.house.toldGuests) == 0;
    }

    private void refresh() {
        if (isStale) {
            evening.pour(theatre);
            evening.play(theatre);
            isStale = false;
        }
    }

    private int wetOfGuest(int g, int act) {
        int from = act == ACTS ? 0 : act;
        int to = act == ACTS ? ACTS - 1 : act;
        int sum = 0;
        for (int a = from; a <= to; a++) {
            int seat = theatre.house.sitsOn[a * GUESTS + g];
            sum += seat < SEATS ? evening.wet[a * SEATS + seat] : 0;
        }
        return sum;
    }

    private boolean isAnyTaken(int act, int guests) {
        for (int j = 0; j < seating.size; j++) {
            int sitter = theatre.house.guestOn(act, seating.seats[j]);
            if (sitter != NONE && (guests >> sitter & 1) == 0) {
                return true;
            }
        }
        return false;
    }

    /** What each NOTE of an ACT lets fall on a SEAT in that ACT. */
    private void weighNotes(int act, int seat) {
        for (int i = 0; i < NOTES; i++) {
            boolean isOfAct = i < theatre.score.notes && theatre.score.act[i] == act;
            noteWeights.weight[i] = isOfAct ? evening.fromNote(i, act, seat, theatre.house) : 0;
        }
        noteWeights.sort();
    }

    /** A SEAT's WET does not hang on another SEAT's BUCKET, so a sponge saves there what it holds, ACT by ACT. */
    private int spongeWorth(int seat, int n) {
        int sum = 0;
        for (int act = 0; act < ACTS; act++) {
            int saved = Math.min(n, evening.wet[act * SEATS + seat]);
            int g = saved > 0 ? theatre.house.guestOn(act, seat) : NONE;
            sum += g == NONE ? 0 : saved * theatre.house.rank[g];
        }
        return sum;
    }

    private int paidFor(int act) {
        int from = act == ACTS ? 0 : act;
        int to = act == ACTS ? ACTS - 1 : act;
        int sum = 0;
        for (int a = from; a <= to; a++) {
            for (int g = 0; g < GUESTS; g++) {
                int seat = theatre.house.sitsOn[a * GUESTS + g];
                if (seat < SEATS && evening.wet[a * SEATS + seat] == 0) {
                    sum += theatre.payFor(seat, a);
                }
            }
        }
        return sum;
    }

    /** What is fed, and how far a reader of it has come. */
    private static final class Tape {
        final int[] bytes = new int[TAPE];
        int size;
        int place;
        int end;
        /** The first FAULT as it is answered; 0: none. */
        int fault;

        void append(int word) {
            for (int shift = 24; shift >= 0; shift -= 8) {
                if (size < TAPE) {
                    bytes[size] = word >>> shift & 255;
                    size++;
                }
            }
        }

        int numberAt(int i) {
            int number = 0;
            for (int j = 4 * i; j < 4 * i + 4; j++) {
                number = number << 8 | (j >= 0 && j < TAPE ? bytes[j] : 0);
            }
            return number;
        }

        void startReading(int n) {
            place = 0;
            end = Math.min(n, size);
            fault = 0;
        }

        /** The byte to be read next, NONE at the end. */
        int peek() {
            return place >= 0 && place < end ? bytes[place] : NONE;
        }

        /** Which of these signs is next, NONE: not one of them. */
        int peekAmong(String signs) {
            int sign = peek();
            return sign < 0 ? NONE : signs.indexOf((char) sign);
        }

        int peekDigit() {
            int sign = peek();
            return sign >= '0' && sign <= '9' ? sign - '0' : NONE;
        }

        void fail(int number, int at) {
            if (fault == 0) {
                fault = -1000 * number - at;
            }
        }

        void pass(char sign) {
            if (peek() == sign) {
                place++;
            } else {
                fail(CANNOT_STAND, place);
            }
        }
    }

    /** All that is KEPT. */
    private static final class House {
        final boolean[] umbrella = new boolean[SEATS];
        final int[] bucket = new int[SEATS];
        final int[] mould = new int[SEATS];
        final int[] slateSeat = new int[SLATES];
        final int[] low = new int[SLATES];
        final int[] high = new int[SLATES];
        int toldSlates;
        int nailedSlates;
        final int[] rain = new int[ACTS];
        final int[] rank = new int[GUESTS];
        final int[] sitsOn = new int[ACTS * GUESTS];
        int toldGuests;
        int evenings;
        int paidSoFar;
        final int[] guestSoFar = new int[GUESTS];
        final int[] slateSoFar = new int[SLATES];
        final int[] noteSoFar = new int[NOTES];
        int x;

        House() {
            Arrays.fill(sitsOn, OUT);
            x = 1;
        }

        void copyFrom(House other) {
            for (int seat = 0; seat < SEATS; seat++) {
                umbrella[seat] = other.umbrella[seat];
            }
            System.arraycopy(other.bucket, 0, bucket, 0, SEATS);
            System.arraycopy(other.mould, 0, mould, 0, SEATS);
            System.arraycopy(other.slateSeat, 0, slateSeat, 0, SLATES);
            System.arraycopy(other.low, 0, low, 0, SLATES);
            System.arraycopy(other.high, 0, high, 0, SLATES);
            toldSlates = other.toldSlates;
            nailedSlates = other.nailedSlates;
            System.arraycopy(other.rain, 0, rain, 0, ACTS);
            System.arraycopy(other.rank, 0, rank, 0, GUESTS);
            System.arraycopy(other.sitsOn, 0, sitsOn, 0, ACTS * GUESTS);
            toldGuests = other.toldGuests;
            evenings = other.evenings;
            paidSoFar = other.paidSoFar;
            System.arraycopy(other.guestSoFar, 0, guestSoFar, 0, GUESTS);
            System.arraycopy(other.slateSoFar, 0, slateSoFar, 0, SLATES);
            System.arraycopy(other.noteSoFar, 0, noteSoFar, 0, NOTES);
            x = other.x;
        }

        boolean isSlate(int k) {
            return k >= 0 && k < SLATES && (toldSlates >> k & 1) == 1;
        }

        boolean isNailed(int k) {
            return (nailedSlates >> k & 1) == 1;
        }

        boolean isGuest(int g) {
            return g >= 0 && g < GUESTS && (toldGuests >> g & 1) == 1;
        }

        void putSlate(int k, int seat, int lowest, int highest) {
            slateSeat[k] = seat;
            low[k] = lowest;
            high[k] = highest;
            toldSlates |= 1 << k;
            nailedSlates &= ~(1 << k);
        }

        void putGuest(int g, int rankOfGuest) {
            rank[g] = rankOfGuest;
            toldGuests |= 1 << g;
            for (int act = 0; act < ACTS; act++) {
                sitsOn[act * GUESTS + g] = OUT;
            }
        }

        int guestOn(int act, int seat) {
            for (int g = 0; g < GUESTS && seat != OUT; g++) {
                if (sitsOn[act * GUESTS + g] == seat) {
                    return g;
                }
            }
            return NONE;
        }

        /** How many of the DROPS that come down above a SEAT fall on another one, or on it. */
        int share(int from, int on, int drops) {
            if (!umbrella[from]) {
                return from == on ? drops : 0;
            }
            boolean isBeside = Math.abs(from - on) == 1 && from / PLACES == on / PLACES;
            return isBeside ? drops / 3 : 0;
        }

        int countAt(int what) {
            if (what >= 10 && what < 10 + ACTS) {
                return rain[what - 10];
            }
            if (what >= 100 && what < 100 + SEATS) {
                return mould[what - 100];
            }
            if (what >= 200 && what < 200 + SEATS) {
                return bucket[what - 200] + (umbrella[what - 200] ? 1000 : 0);
            }
            // act and guest stand in it just as they do in the row of seats
            if (what >= 300 && what < 300 + ACTS * GUESTS && isGuest((what - 300) % GUESTS)) {
                return sitsOn[what - 300];
            }
            return NONE;
        }
    }

    /** THE SCORE; without NOTES: there is none. */
    private static final class Score {
        final int[] voice = new int[NOTES];
        final int[] pitch = new int[NOTES];
        final int[] length = new int[NOTES];
        final int[] bar = new int[NOTES];
        final int[] act = new int[NOTES];
        int notes;
        int bars;
        int acts;

        /** How many NOTES, or the FAULT. */
        int readFrom(Tape tape) {
            notes = 0;
            bars = 1;
            acts = 1;
            for (int i = 0; i <= NOTES && tape.fault == 0; i++) {
                readNote(tape);
                if (tape.fault == 0 && tape.peek() == NONE) {
                    return notes;
                }
                readMark(tape);
            }
            return tape.fault;
        }

        private void readNote(Tape tape) {
            int sung = tape.peekAmong(VOICE_SIGNS);
            if (sung < 0) {
                tape.fail(CANNOT_STAND, tape.place);
            } else if (notes >= NOTES) {
                tape.fail(TOO_MANY, tape.place);
            }
            if (tape.fault != 0) {
                return;
            }
            tape.place++;
            int height = readPitch(tape);
            tape.pass('x');
            int duration = tape.peekDigit();
            if (duration < 1) {
                tape.fail(CANNOT_STAND, tape.place);
            }
            if (tape.fault != 0) {
                return;
            }
            tape.place++;
            voice[notes] = sung;
            pitch[notes] = height;
            length[notes] = duration;
            bar[notes] = bars - 1;
            act[notes] = acts - 1;
            notes++;
        }

        private int readPitch(Tape tape) {
            int start = tape.place;
            int height = tape.peekDigit();
            if (height < 0) {
                tape.fail(CANNOT_STAND, start);
                return 0;
            }
            tape.place++;
            int second = tape.peekDigit();
            if (second >= 0) {
                tape.place++;
                height = 10 * height + second;
            }
            if (height >= PITCHES) {
                tape.fail(TOO_HIGH, start);
            }
            return height;
        }

        private void readMark(Tape tape) {
            int sign = tape.peek();
            if (sign == '|' || sign == '/') {
                if (bars >= BARS || (sign == '/' && acts >= ACTS)) {
                    tape.fail(NO_MORE_BARS, tape.place);
                }
                bars++;
                acts += sign == '/' ? 1 : 0;
            } else if (sign != ',') {
                tape.fail(CANNOT_STAND, tape.place);
            }
            tape.place++;
        }

        boolean canShift(int shift) {
            for (int i = 0; i < notes; i++) {
                if (pitch[i] + shift < 0 || pitch[i] + shift >= PITCHES) {
                    return false;
                }
            }
            return true;
        }
    }

    /** THE LAW as code for a machine with a stack; jumps lead ahead only. */
    private static final class Law {
        /** Each piece of code stands for one byte of the text at least. */
        static final int CODE = TEXT;
        /** Six open brackets, two operands waiting in each, fill half of it. */
        static final int STACK = 32;

        /** Codes below these are places in OPERATOR_SIGNS. */
        static final int DIVIDE = 3;
        static final int REMAINDER = 4;
        static final int NUMBER = 8;
        static final int LETTER = 9;
        static final int NOT = 10;
        static final int AND = 11;
        static final int OR = 12;

        static final int ACT_LETTER = 6;
        static final int WET_LETTER = 11;
        static final int LETTERS = 12;

        final int[] code = new int[CODE];
        final int[] operand = new int[CODE];
        int size;
        int clauses;
        final int[] kind = new int[CLAUSES];
        final int[] amountStart = new int[CLAUSES];
        final int[] conditionStart = new int[CLAUSES];
        final int[] conditionEnd = new int[CLAUSES];
        final int[] letters = new int[LETTERS];
        final int[] stack = new int[STACK];

        /** By the first CLAUSE of this kind that holds. */
        int amount(int wanted, int most) {
            for (int c = 0; c < clauses; c++) {
                if (kind[c] == wanted && run(conditionStart[c], conditionEnd[c]) != 0) {
                    return Math.max(0, Math.min(most, run(amountStart[c], conditionStart[c])));
                }
            }
            return 0;
        }

        boolean isAnyHolding(int wanted) {
            for (int c = 0; c < clauses; c++) {
                if (kind[c] == wanted && run(conditionStart[c], conditionEnd[c]) != 0) {
                    return true;
                }
            }
            return false;
        }

        /** 0 where something is REFUSED: so is an E then, and a C does not hold. */
        private int run(int from, int to) {
            int at = from;
            int top = 0;
            for (int step = 0; step < CODE && at >= 0 && at < to && at < CODE; step++) {
                int what = code[at];
                int with = operand[at];
                at++;
                if (what == NUMBER || what == LETTER) {
                    if (top >= STACK || (what == LETTER && (with < 0 || with >= LETTERS))) {
                        return 0;
                    }
                    stack[top] = what == NUMBER ? with : letters[with];
                    top++;
                } else if (what >= NOT) {
                    if (top < 1) {
                        return 0;
                    }
                    boolean holds = stack[top - 1] != 0;
                    if (what == NOT) {
                        stack[top - 1] = holds ? 0 : 1;
                    } else if (holds == (what == OR)) {
                        at = with;
                    } else {
                        top--;
                    }
                } else {
                    top--;
                    if (top < 1 || (stack[top] == 0 && (what == DIVIDE || what == REMAINDER))) {
                        return 0;
                    }
                    stack[top - 1] = reckon(what, stack[top - 1], stack[top]);
                }
            }
            return top == 1 ? stack[0] : 0;
        }

        private static int reckon(int operator, int a, int b) {
            switch (operator) {
                case 0: return a + b;
                case 1: return a - b;
                case 2: return a * b;
                case DIVIDE: return b == 0 ? 0 : a / b;
                case REMAINDER: return b == 0 ? 0 : a % b;
                case 5: return a < b ? 1 : 0;
                case 6: return a > b ? 1 : 0;
                default: return a == b ? 1 : 0;
            }
        }

        /** Where it was put. */
        int emit(int what, int with) {
            int at = size;
            if (at < CODE) {
                code[at] = what;
                operand[at] = with;
                size++;
            }
            return at;
        }

        /** A jump leads behind all code that there is by now. */
        void jumpFrom(int at) {
            if (at >= 0 && at < CODE) {
                operand[at] = size;
            }
        }
    }

    /** Turns a text into a LAW, its own one; whoever wants it gives another one for it. */
    private static final class LawReader {
        private static final int DEEPEST = 6;

        private static final int PARTS = 0;
        private static final int PIECES = 1;
        private static final int TERMS = 2;
        private static final int FACTORS = 3;

        Law law = new Law();

        /** How many CLAUSES, or the FAULT. */
        int readLaw(Tape tape) {
            law.size = 0;
            law.clauses = 0;
            for (int i = 0; i <= CLAUSES && tape.fault == 0; i++) {
                readClause(tape);
                if (tape.fault == 0 && tape.peek() == NONE) {
                    return law.clauses;
                }
                tape.pass(';');
            }
            return tape.fault;
        }

        private void readClause(Tape tape) {
            int c = law.clauses;
            int kind = tape.peekAmong(CLAUSE_SIGNS);
            if (kind < 0) {
                tape.fail(CANNOT_STAND, tape.place);
            } else if (c >= CLAUSES) {
                tape.fail(TOO_MANY, tape.place);
            }
            if (tape.fault != 0) {
                return;
            }
            tape.place++;
            law.kind[c] = kind;
            law.amountStart[c] = law.size;
            if (kind != SNOW_CLAUSE) {
                readChain(tape, TERMS, 0);
            }
            law.conditionStart[c] = law.size;
            tape.pass('(');
            readChain(tape, PARTS, 1);
            tape.pass(')');
            law.conditionEnd[c] = law.size;
            law.clauses++;
        }

        /** Links of one level, with that level's signs between them. */
        private void readChain(Tape tape, int level, int depth) {
            int joint = NONE;
            for (int i = 0; i < TEXT && tape.fault == 0; i++) {
                boolean isJump = joint == Law.AND || joint == Law.OR;
                int jump = isJump ? law.emit(joint, 0) : NONE;
                switch (level) {
                    case PARTS: readChain(tape, PIECES, depth); break;
                    case PIECES: readPiece(tape, depth); break;
                    case TERMS: readChain(tape, FACTORS, depth); break;
                    default: readFactor(tape, depth); break;
                }
                if (isJump) {
                    law.jumpFrom(jump);
                } else if (joint != NONE) {
                    law.emit(joint, 0);
                }
                joint = peekJoint(tape, level);
                if (joint == NONE) {
                    return;
                }
                tape.place++;
            }
        }

        /** The code of the sign that may join links of this level, if it is next; else NONE. */
        private int peekJoint(Tape tape, int level) {
            int sign = tape.peek();
            int operator = tape.peekAmong(OPERATOR_SIGNS);
            switch (level) {
                case PARTS: return sign == '|' ? Law.OR : NONE;
                case PIECES: return sign == '&' ? Law.AND : NONE;
                case TERMS: return operator <= 1 ? operator : NONE;
                default: return operator >= 2 && operator <= Law.REMAINDER ? operator : NONE;
            }
        }

        private void readPiece(Tape tape, int depth) {
            int sign = tape.peek();
            if (sign == '!') {
                if (enter(tape, depth)) {
                    readPiece(tape, depth + 1);
                    law.emit(Law.NOT, 0);
                }
            } else if (sign == '(') {
                if (enter(tape, depth)) {
                    readChain(tape, PARTS, depth + 1);
                    tape.pass(')');
                }
            } else {
                readComparison(tape, depth);
            }
        }

        private void readComparison(Tape tape, int depth) {
            readChain(tape, TERMS, depth);
            int operator = tape.peekAmong(OPERATOR_SIGNS);
            if (operator <= Law.REMAINDER) {
                tape.fail(CANNOT_STAND, tape.place);
                return;
            }
            tape.place++;
            readChain(tape, TERMS, depth);
            law.emit(operator, 0);
        }

        private void readFactor(Tape tape, int depth) {
            int letter = tape.peekAmong(LETTER_SIGNS);
            if (letter >= 0) {
                tape.place++;
                law.emit(Law.LETTER, letter);
            } else if (tape.peekDigit() >= 0) {
                readNumber(tape);
            } else if (tape.peek() != '[') {
                tape.fail(CANNOT_STAND, tape.place);
            } else if (enter(tape, depth)) {
                readChain(tape, TERMS, depth + 1);
                tape.pass(']');
            }
        }

        private void readNumber(Tape tape) {
            int number = 0;
            for (int digits = 0; digits <= 5; digits++) {
                int digit = tape.peekDigit();
                if (digit < 0) {
                    break;
                }
                if (digits == 5) {
                    tape.fail(TOO_MANY_DIGITS, tape.place);
                    return;
                }
                number = 10 * number + digit;
                tape.place++;
            }
            law.emit(Law.NUMBER, number);
        }

        /** Passes a sign that opens one level more, if that many may be open. */
        private boolean enter(Tape tape, int depth) {
            if (depth >= DEEPEST) {
                tape.fail(TOO_DEEP, tape.place);
            } else {
                tape.place++;
            }
            return tape.fault == 0;
        }
    }

    /** The house, THE SCORE and THE LAW, and what these say together. */
    private static final class Theatre {
        final House house = new House();
        Score score = new Score();
        Law law = new Law();
        private final int[] fallen = new int[ACTS];

        /** The letters are left told, so that isSnow may be asked of the same DROPS. */
        int dropsThrough(int i, int k, int shift) {
            int pitch = score.pitch[i] + shift;
            if (!house.isSlate(k) || house.isNailed(k) || pitch < house.low[k] || pitch > house.high[k]) {
                return 0;
            }
            int[] letters = law.letters;
            letters[0] = score.voice[i];
            letters[1] = pitch;
            letters[2] = score.length[i];
            letters[3] = i;
            letters[4] = score.bar[i];
            letters[5] = k;
            letters[Law.WET_LETTER] = 0;
            tellAct(score.act[i]);
            tellSeat(house.slateSeat[k]);
            return law.amount(DROP_CLAUSE, 99);
        }

        boolean isSnow() {
            return law.isAnyHolding(SNOW_CLAUSE);
        }

        int payFor(int seat, int act) {
            Arrays.fill(law.letters, 0);
            tellAct(act);
            tellSeat(seat);
            return law.amount(PAY_CLAUSE, 999);
        }

        void growMould(Evening evening) {
            Arrays.fill(law.letters, 0);
            for (int seat = 0; seat < SEATS; seat++) {
                tellSeat(seat);
                law.letters[Law.WET_LETTER] = evening.seatWet(seat, ACTS);
                house.mould[seat] = Math.min(99, house.mould[seat] + law.amount(MOULD_CLAUSE, 9));
            }
        }

        private void tellAct(int act) {
            law.letters[Law.ACT_LETTER] = act;
            law.letters[Law.ACT_LETTER + 1] = house.rain[act];
        }

        private void tellSeat(int seat) {
            law.letters[Law.ACT_LETTER + 2] = seat / PLACES;
            law.letters[Law.ACT_LETTER + 3] = seat % PLACES;
            law.letters[Law.ACT_LETTER + 4] = house.mould[seat];
        }

        /** How WET a GUEST would be in all, were all NOTES sung that much higher; only SLATES that reach it are asked. */
        int shiftedWet(int g, int shift) {
            Arrays.fill(fallen, 0);
            for (int i = 0; i < score.notes; i++) {
                for (int k = 0; k < SLATES; k++) {
                    addShifted(g, i, k, shift);
                }
            }
            int sum = 0;
            for (int act = 0; act < ACTS; act++) {
                int seat = house.sitsOn[act * GUESTS + g];
                sum += seat < SEATS ? Math.max(0, fallen[act] - house.bucket[seat]) : 0;
            }
            return sum;
        }

        private void addShifted(int g, int i, int k, int shift) {
            int act = score.act[i];
            int here = house.sitsOn[act * GUESTS + g];
            int next = act + 1 < ACTS ? house.sitsOn[(act + 1) * GUESTS + g] : OUT;
            int above = house.slateSeat[k];
            // three DROPS are the fewest of which some get past an UMBRELLA
            if (house.share(above, here, 3) == 0 && house.share(above, next, 3) == 0) {
                return;
            }
            int drops = dropsThrough(i, k, shift);
            if (drops == 0) {
                return;
            }
            if (!isSnow()) {
                fallen[act] += house.share(above, here, drops);
            } else if (act + 1 < ACTS) {
                fallen[act + 1] += house.share(above, next, drops);
            }
        }
    }

    /** AN EVENING as it goes: what comes through the roof, where it falls, and what it was LED to. */
    private static final class Evening {
        /** By NOTE and SLATE, of the NOTES that there are. */
        final int[] drops = new int[NOTES * SLATES];
        /** The ACT in which those DROPS fall; ACTS: never. */
        final int[] fallsIn = new int[NOTES * SLATES];
        /** By ACT and SEAT. */
        final int[] wet = new int[ACTS * SEATS];
        final int[] byNote = new int[NOTES];
        final int[] bySlate = new int[SLATES];
        /** What the BUCKETS still hold. */
        private final int[] left = new int[SEATS];

        /** Asked behind pour: what comes through the roof is known then. */
        void play(Theatre theatre) {
            Arrays.fill(wet, 0);
            Arrays.fill(byNote, 0);
            Arrays.fill(bySlate, 0);
            for (int act = 0; act < ACTS; act++) {
                System.arraycopy(theatre.house.bucket, 0, left, 0, SEATS);
                fallInAct(theatre, act);
            }
        }

        void pour(Theatre theatre) {
            Score score = theatre.score;
            for (int i = 0; i < score.notes; i++) {
                for (int k = 0; k < SLATES; k++) {
                    int at = i * SLATES + k;
                    drops[at] = theatre.dropsThrough(i, k, 0);
                    if (drops[at] > 0) {
                        fallsIn[at] = score.act[i] + (theatre.isSnow() ? 1 : 0);
                    }
                }
            }
        }

        /** NOTES go by ACTS, so what was SNOW in the ACT ahead comes first by itself. */
        private void fallInAct(Theatre theatre, int act) {
            for (int i = 0; i < theatre.score.notes; i++) {
                int late = act - theatre.score.act[i];
                if (late != 0 && late != 1) {
                    continue;
                }
                for (int k = 0; k < SLATES; k++) {
                    int at = i * SLATES + k;
                    if (drops[at] > 0 && fallsIn[at] == act) {
                        fall(theatre.house, act, i, k);
                    }
                }
            }
        }

        private void fall(House house, int act, int i, int k) {
            int all = drops[i * SLATES + k];
            int above = house.slateSeat[k];
            int rest;
            if (!house.umbrella[above]) {
                rest = land(act, above, all);
            } else {
                int place = above % PLACES;
                rest = (place > 0 ? land(act, above - 1, all / 3) : 0)
                        + (place < PLACES - 1 ? land(act, above + 1, all / 3) : 0);
            }
            byNote[i] += rest;
            bySlate[k] += rest;
        }

        /** What of it the BUCKET does not hold. */
        private int land(int act, int seat, int all) {
            int rest = Math.max(0, all - left[seat]);
            left[seat] -= all - rest;
            wet[act * SEATS + seat] += rest;
            return rest;
        }

        /** Of ACT 4: in all. */
        int seatWet(int seat, int act) {
            if (act < ACTS) {
                return wet[act * SEATS + seat];
            }
            return wet[seat] + wet[SEATS + seat] + wet[2 * SEATS + seat] + wet[3 * SEATS + seat];
        }

        int actWet(int act) {
            int sum = 0;
            for (int seat = 0; seat < SEATS; seat++) {
                sum += wet[act * SEATS + seat];
            }
            return sum;
        }

        int voiceWet(int voice, Score score) {
            int sum = 0;
            for (int i = 0; i < score.notes; i++) {
                sum += score.voice[i] == voice ? byNote[i] : 0;
            }
            return sum;
        }

        int houseWet() {
            int sum = 0;
            for (int k = 0; k < SLATES; k++) {
                sum += bySlate[k];
            }
            return sum;
        }

        /** What falls on a SEAT in an ACT by a NOTE, into the BUCKET too. */
        int fromNote(int i, int act, int seat, House house) {
            int sum = 0;
            for (int k = 0; k < SLATES; k++) {
                sum += fromBoth(i, k, act, seat, house);
            }
            return sum;
        }

        /** What falls on a SEAT in an ACT through a SLATE, into the BUCKET too. */
        int fromSlate(int k, int act, int seat, Theatre theatre) {
            int sum = 0;
            for (int i = 0; i < theatre.score.notes; i++) {
                sum += fromBoth(i, k, act, seat, theatre.house);
            }
            return sum;
        }

        private int fromBoth(int i, int k, int act, int seat, House house) {
            int at = i * SLATES + k;
            boolean is = drops[at] > 0 && fallsIn[at] == act;
            return is ? house.share(house.slateSeat[k], seat, drops[at]) : 0;
        }
    }

    /** A row of weights, of which the fewest are picked that weigh enough. */
    private static final class Weights {
        final int[] weight;
        /** The row's places, the heaviest first. */
        private final int[] order;

        Weights(int size) {
            weight = new int[Math.max(0, size)];
            order = new int[weight.length];
        }

        void sort() {
            for (int i = 0; i < order.length; i++) {
                int at = i;
                while (at > 0 && weight[order[at - 1]] < weight[i]) {
                    order[at] = order[at - 1];
                    at--;
                }
                order[at] = i;
            }
        }

        /** What the heaviest ones, so many at most, weigh together of the places from one on to ahead of another. */
        int heaviest(int from, int to, int most) {
            int sum = 0;
            int taken = 0;
            for (int j = 0; j < order.length && taken < most; j++) {
                if (order[j] >= from && order[j] < to) {
                    sum += weight[order[j]];
                    taken++;
                }
            }
            return sum;
        }

        /** How few weigh enough; NONE: not even all. */
        int fewest(int need) {
            for (int few = 0; few <= weight.length; few++) {
                if (heaviest(0, weight.length, few) >= need) {
                    return few;
                }
            }
            return NONE;
        }

        /** One of the least row of the fewest that weigh enough. */
        int pick(int need, int wanted) {
            int few = fewest(need);
            int due = need;
            int picked = 0;
            for (int i = 0; i < weight.length && picked < few; i++) {
                if (weight[i] + heaviest(i + 1, weight.length, few - picked - 1) >= due) {
                    if (picked == wanted) {
                        return i;
                    }
                    due -= weight[i];
                    picked++;
                }
            }
            return NONE;
        }
    }

    /** SEATED: each GUEST on one of the told SEATS. */
    private static final class Seating {
        final int[] seats = new int[SEATED_GUESTS];
        int size;
        /** By the SEATS that are taken (bits, by the first GUESTS): the least for all GUESTS that are left. */
        final int[] least = new int[1 << SEATED_GUESTS];
        private final int[] guests = new int[SEATED_GUESTS];
        private final int[] chosen = new int[SEATED_GUESTS];
        private final int[] rank = new int[SEATED_GUESTS];
        private final int[] wet = new int[SEATED_GUESTS];

        /** False: one is none, or there twice. They are sorted, so that the first that does is the least. */
        boolean takeSeats(Tape tape, int n) {
            size = 0;
            for (int j = 0; j < n && j < SEATED_GUESTS; j++) {
                int seat = tape.bytes[j];
                int at = size;
                while (at > 0 && seats[at - 1] > seat) {
                    seats[at] = seats[at - 1];
                    at--;
                }
                if (seat >= SEATS || (at > 0 && seats[at - 1] == seat)) {
                    return false;
                }
                seats[at] = seat;
                size++;
            }
            return true;
        }

        void solve(House house, int guestBits, Evening evening, int act) {
            int found = 0;
            for (int g = 0; g < GUESTS && found < size; g++) {
                if ((guestBits >> g & 1) == 1) {
                    guests[found] = g;
                    rank[found] = house.rank[g];
                    wet[found] = evening.wet[act * SEATS + seats[found]];
                    found++;
                }
            }
            int all = (1 << size) - 1;
            least[all] = 0;
            for (int taken = all - 1; taken >= 0; taken--) {
                int j = firstBest(taken);
                least[taken] = costWith(taken, j);
            }
            int taken = 0;
            for (int h = 0; h < size; h++) {
                int j = firstBest(taken);
                chosen[h] = seats[j];
                taken |= 1 << j;
            }
        }

        /** For the GUEST whose turn it is when these are taken. */
        private int firstBest(int taken) {
            int best = NONE;
            int bestCost = 0;
            for (int j = 0; j < size; j++) {
                int cost = costWith(taken, j);
                if ((taken >> j & 1) == 0 && (best == NONE || cost < bestCost)) {
                    best = j;
                    bestCost = cost;
                }
            }
            return Math.max(0, best);
        }

        private int costWith(int taken, int j) {
            int turn = Math.min(Integer.bitCount(taken), SEATED_GUESTS - 1);
            return rank[turn] * wet[j] + least[taken | 1 << j];
        }

        int seatOf(int g) {
            for (int h = 0; h < size; h++) {
                if (guests[h] == g) {
                    return chosen[h];
                }
            }
            return NONE;
        }

        void putInto(House house, int act) {
            for (int h = 0; h < size; h++) {
                house.sitsOn[act * GUESTS + guests[h]] = chosen[h];
            }
        }
    }

    /** NAILS: the fewest SLATES by which each WET SEAT gets rid of all that it is WET by. */
    private static final class Nailing {
        private final Weights[] rows = new Weights[ACTS * GUESTS];
        private final int[] need = new int[ACTS * GUESTS];
        private int size;
        private int found;

        Nailing() {
            for (int r = 0; r < ACTS * GUESTS; r++) {
                rows[r] = new Weights(SLATES);
            }
        }

        void clear() {
            size = 0;
        }

        void add(int wet, Theatre theatre, Evening evening, int act, int seat) {
            if (size >= need.length) {
                return;
            }
            need[size] = wet;
            for (int k = 0; k < SLATES; k++) {
                rows[size].weight[k] = evening.fromSlate(k, act, seat, theatre);
            }
            rows[size].sort();
            size++;
        }

        int solve() {
            found = 0;
            for (int few = 0; few <= SLATES; few++) {
                if (search(SLATES, few, 0)) {
                    return found;
                }
            }
            return found;
        }

        /** The highest SLATES are tried last, so that what is found first has the least bits. */
        private boolean search(int below, int few, int bits) {
            if (!isInReach(below, few)) {
                return false;
            }
            if (few == 0 || below == 0) {
                found = bits;
                return true;
            }
            int k = below - 1;
            if (search(k, few, bits)) {
                return true;
            }
            for (int r = 0; r < size; r++) {
                need[r] -= rows[r].weight[k];
            }
            boolean is = search(k, few - 1, bits | 1 << k);
            for (int r = 0; r < size; r++) {
                need[r] += rows[r].weight[k];
            }
            return is;
        }

        private boolean isInReach(int below, int few) {
            for (int r = 0; r < size; r++) {
                if (need[r] > 0 && rows[r].heaviest(0, below, few) < need[r]) {
                    return false;
                }
            }
            return true;
        }
    }

    /** SUNG: the sets of an ACT's BARS by which told SEATS are just so WET. */
    private static final class SungBars {
        int sets;
        int first;
        int common;
        private int act;
        private int firstBar;
        private int bars;
        private int size;
        /** What may fall on each SEAT, BUCKET and all: from so much to so much. */
        private final int[] from = new int[TOLD_SEATS];
        private final int[] to = new int[TOLD_SEATS];
        private final int[] sum = new int[TOLD_SEATS];
        /** By SEAT and BAR: what falls by the BARS ahead of it; its own is what the next one has more. */
        private final int[] ahead = new int[TOLD_SEATS * (BARS + 1)];

        void start(Score score, int wanted) {
            act = wanted;
            size = 0;
            bars = 0;
            for (int i = 0; i < score.notes; i++) {
                if (score.act[i] == act) {
                    firstBar = bars == 0 ? score.bar[i] : firstBar;
                    bars = Math.min(BARS, score.bar[i] - firstBar + 1);
                }
            }
        }

        void add(int seat, int wet, Theatre theatre, Evening evening) {
            if (size >= TOLD_SEATS) {
                return;
            }
            int held = theatre.house.bucket[seat];
            from[size] = wet == 0 ? 0 : held + wet;
            to[size] = held + wet;
            sum[size] = 0;
            int base = size * (BARS + 1);
            for (int b = 0; b <= BARS; b++) {
                ahead[base + b] = 0;
            }
            Score score = theatre.score;
            for (int i = 0; i < score.notes; i++) {
                int b = score.bar[i] - firstBar + 1;
                if (score.act[i] == act && b > 0 && b <= BARS) {
                    ahead[base + b] += evening.fromNote(i, act, seat, theatre.house);
                }
            }
            for (int b = 1; b <= BARS; b++) {
                ahead[base + b] += ahead[base + b - 1];
            }
            size++;
        }

        void solve() {
            sets = 0;
            first = 0;
            common = 0;
            search(bars, 0);
        }

        /** The last BARS are tried last, so that the first set has the least bits. */
        private void search(int below, int set) {
            if (!isInReach(below)) {
                return;
            }
            if (below == 0 || isFree(below)) {
                first = sets == 0 ? set : first;
                common = sets == 0 ? set : common & set;
                sets += 1 << below;
                return;
            }
            int b = below - 1;
            search(b, set);
            sing(b, 1);
            search(b, set | 1 << b);
            sing(b, -1);
        }

        /** Whether the BARS that are left may be sung or not, just as one likes. */
        private boolean isFree(int below) {
            for (int t = 0; t < size; t++) {
                if (sum[t] < from[t] || sum[t] + ahead[t * (BARS + 1) + below] > to[t]) {
                    return false;
                }
            }
            return true;
        }

        private void sing(int b, int sign) {
            for (int t = 0; t < size; t++) {
                int at = t * (BARS + 1) + b;
                sum[t] += sign * (ahead[at + 1] - ahead[at]);
            }
        }

        private boolean isInReach(int below) {
            for (int t = 0; t < size; t++) {
                if (sum[t] > to[t] || sum[t] + ahead[t * (BARS + 1) + below] < from[t]) {
                    return false;
                }
            }
            return true;
        }
    }
}
