import java.util.ArrayList;
import java.util.List;
import java.util.function.ToIntFunction;

/** Terms: PERFORMED, DRAWN, KEPT, UNDONE, CHECK, and what is said of all calls. */
final class KeepingEdges extends Stage {
    @Says(of = "What it is", text = "An object is used for at most 512 calls after it has been made;")
    void anObjectAnswersFor512Calls() {
        law("d99(1=1)");
        score(many("s1x1", 32, ","));
        for (int k = 0; k < 16; k++) {
            x.slate(k, k / 12, k % 12, 0, 47);
        }
        x.guest(0, 99);
        x.sits(0, 0, 0, 0);
        // 2 calls for the law, 9 for the score, 18 till here, and 4 behind
        for (int n = 29; n < 508; n++) {
            due(x.perform(), 16 * 32 * 99, "as WET as can be");
        }
        due(x.soFar(0), 479, "EVENINGS, by call 509");
        due(x.soFar(10), 479 * 32 * 99, "GUEST 0, by call 510");
        due(x.soFar(35), 479 * 32 * 99, "SLATE 15, by call 511");
        due(x.soFar(71), 479 * 16 * 99, "NOTE 31, by call 512");
    }

    @Says(of = "Terms", text = {"(4 at most)", "(12 at most in all ACTS)", "(32 at most in all)", "(14 at most)", "GUESTS 0 to 9",
        "SLATES 0 to 15"})
    void everythingAtItsMost() {
        law(many("d0-1(1=2)", 13, ";") + ";d99(1=1)");
        score(many(many("b47x9,b47x9", 3, "|"), 4, "/") + many(",b47x9", 8, ""));
        for (int k = 0; k < 16; k++) {
            x.slate(k, 7, 11, 0, 47);
        }
        for (int g = 0; g < 10; g++) {
            x.guest(g, 99);
        }
        for (int act = 0; act < 4; act++) {
            x.sits(9, act, 7, 11);
        }
        int packet = 16 * 99;
        due(x.count(0) * 10000 + x.count(1) * 100 + x.count(2), 321204, "NOTES, BARS, ACTS");
        due(x.wet(7, 11, 3), 14 * packet, "the last ACT");
        due(x.guestWet(9, 4), 32 * packet, "the last GUEST");
        due(x.house(0, 31), packet, "the last NOTE");
        due(x.house(1, 15), 32 * 99, "the last SLATE");
        due(x.house(2, 3), 32 * packet, "the last VOICE");
        due(x.drops(31, 15), 99, "DROPS");
        due(x.leftOut(9, 3, NONE), 14, "LEFT OUT");
        due(x.leftOut(9, 3, 13), 31, "the last NOTE LEFT OUT");
        due(x.nails(0x200, 1), 0xffff, "NAILS");
        due(x.transposed(9, 1), 32 * packet, "TRANSPOSED");
        due(x.sponge(99, 0), 95, "the SEAT of A SPONGE");
        due(x.sponge(99, 1), 4 * 99 * 99, "A SPONGE");
        due(sung(3, 0, 95, 0), 1, "SUNG");
        due(check(3, 7, 0, 0, 0, 0, 0, 0, 0, 0, 0, 0, 0, 14 * packet), NONE, "CHECK");
        due(seated(3, 0x3fc, 10, 95, 94, 93, 92, 91, 90, 89, 88), 99 * 14 * packet, "SEATED");
        due(x.perform(), 32 * packet, "PERFORMED");
        due(x.soFar(71), packet, "LED to the last NOTE");
    }

    @Says(of = "What it is", text = "at most 512 calls after it has been made;")
    void anyCallMayBeThe512th() {
        List<ToIntFunction<RainOpera>> calls = new ArrayList<>();
        calls.add(o -> o.seat(7, 11, true, 99) ? 1 : 0);
        calls.add(o -> o.wet(0, 0, 4));
        calls.add(o -> o.seated(0, 1, 1, 10));
        calls.add(o -> o.transposed(0, 1));
        calls.add(o -> o.leftOut(0, 0, NONE));
        calls.add(o -> o.nails(1, 1));
        calls.add(o -> o.sung(0, 1, 0));
        calls.add(o -> o.sponge(2, 1));
        calls.add(o -> o.draw());
        calls.add(o -> o.feed(0, 0, 0, 0, 0));
        calls.add(o -> o.keep());
        calls.add(o -> o.perform());
        int[] want = {1, 5, 5, 5, 1, 1, 1, 2, 20, 40, 0, 5};
        for (int c = 0; c < want.length; c++) {
            x = new RainOpera();
            law("d5(1=1)");
            score("s1x1");
            x.slate(0, 0, 0, 0, 47);
            x.guest(0, 1);
            x.sits(0, 0, 0, 0);
            feed(0, 5);
            for (int n = 8; n < 511; n++) {
                x.count(n);
            }
            due(calls.get(c).applyAsInt(x), want[c], "call 512 of kind " + c);
        }
    }

    // ---- PERFORMED

    @Says(of = "Terms", text = "PERFORMED is THE EVENING: GUESTS' WET so far, DROPS LED to NOTES and SLATES, "
            + "what is PAID so far become more by it;")
    void performedIsTheEvening() {
        law("dl(1=1);q7(1=1)");
        score("s1x5/a2x3");
        x.slate(0, 0, 0, 1, 1);
        x.slate(15, 0, 0, 2, 2);
        x.seat(0, 0, false, 1);
        x.guest(9, 2);
        x.sits(9, 0, 0, 0);
        x.sits(9, 2, 0, 0);
        for (int n = 1; n <= 3; n++) {
            due(x.perform(), 6, "evening " + n);
            due(x.soFar(19), 4 * n, "GUEST 9, WET in ACT 0");
            due(x.soFar(40), 4 * n, "NOTE 0");
            due(x.soFar(41), 2 * n, "NOTE 1");
            due(x.soFar(20), 4 * n, "SLATE 0");
            due(x.soFar(35), 2 * n, "SLATE 15");
            due(x.soFar(1), 7 * n, "PAID for ACT 2");
        }
    }

    @Says(of = "Terms", text = "then MOULD of each SEAT more by m (99 at most; asked as ahead of that);")
    void mouldGrowsBehindTheEvening() {
        law("d3+o(1=1);m1+o(1=1);q10+o(1=1)");
        score("s1x1");
        x.slate(0, 0, 0, 0, 47);
        x.guest(0, 1);
        x.sits(0, 1, 7, 11);
        int mould = 0;
        int paid = 0;
        for (int n = 1; n <= 16; n++) {
            due(x.perform(), Math.min(99, 3 + mould), "evening " + n + " with the MOULD ahead of it");
            paid += 10 + mould;
            due(x.soFar(1), paid, "PAID with the MOULD ahead of it");
            mould = Math.min(99, mould + Math.min(9, 1 + mould));
            due(x.count(100), mould, "MOULD of SEAT 0");
            due(x.count(195), mould, "MOULD of SEAT 95");
        }
        due(mould, 99, "the last MOULD");
    }

    @Says(of = "Terms", text = "EVENINGS one more.")
    void eveningsAreCounted() {
        score("s1x1");
        for (int n = 0; n < 5; n++) {
            due(x.soFar(0), n, "ahead of it");
            due(x.perform(), 0, "a dry one counts, too");
            due(x.soFar(0), n + 1, "behind it");
        }
    }

    // ---- DRAWN

    @Says(of = "Terms", text = "DRAWN: RAIN of ACTS 0 to 3: X = (25173 X + 13849) modulo 65536")
    void drawnIsTheRainOfAllActs() {
        for (int seed : new int[] {0, 1, 2, 32767, 32768, 65534, 65535}) {
            x.seed(seed);
            long wanted = seed;
            int sum = 0;
            int[] rain = new int[4];
            for (int act = 0; act < 4; act++) {
                wanted = (25173L * wanted + 13849L) % 65536L;
                rain[act] = (int) (wanted % 10);
                sum += rain[act];
            }
            due(x.draw(), sum, "draw from " + seed);
            due(x.count(5), wanted, "X from " + seed);
            for (int act = 0; act < 4; act++) {
                due(x.count(10 + act), rain[act], "RAIN of ACT " + act + " from " + seed);
            }
        }
    }

    @Says(of = "Terms", text = "(X is THE SEED at first, 1) each: X modulo 10.")
    void theSeedIs1AtFirst() {
        due(x.count(5), 1, "X");
        due(x.draw(), 20, "from 1");
        int[] want = {2, 7, 6, 5};
        for (int act = 0; act < 4; act++) {
            due(x.count(10 + act), want[act], "RAIN of ACT " + act);
        }
        int after = x.count(5);
        x.draw();
        RainOpera other = new RainOpera();
        due(other.seed(after), true, "another goes on from there");
        other.draw();
        for (int act = 0; act < 4; act++) {
            due(other.count(10 + act), x.count(10 + act), "RAIN of ACT " + act);
        }
    }

    // ---- KEPT, UNDONE, CHECK

    @Says(of = "Terms", text = "KEPT: SEATS, SLATES, GUESTS, RAIN, EVENINGS and all so far, X;")
    void whatIsKept() {
        furnish();
        x.perform();
        List<Integer> before = photo();
        x = new RainOpera();
        furnish();
        x.perform();
        x.keep();
        x.perform();
        x.seat(0, 0, true, 9);
        x.seat(0, 5, false, 9);
        x.slate(0, 1, 1, 25, 26);
        x.slate(9, 1, 1, 0, 47);
        x.nail(1, true);
        x.guest(0, 98);
        x.guest(7, 1);
        x.sits(1, 1, 6, 6);
        x.sits(9, 3, 0, 0);
        x.rain(2, 8);
        x.draw();
        x.seed(4711);
        due(x.undo(), true, "undo");
        demandAlike(before, photo(), "behind undo");
        x = new RainOpera();
        furnish();
        x.keep();
        emptyTape();
        score("t4x4");
        law("d1(1=1);d1(1=1)");
        feed(1);
        x.undo();
        due(x.note(0, 0), 2, "THE SCORE is not KEPT");
        due(x.count(3), 2, "THE LAW is not KEPT");
        due(x.count(4), 20, "the tape is not KEPT");
    }

    @Says(of = "Terms", text = "UNDONE: as they were KEPT last.")
    void undoneIsWhatWasKeptLast() {
        score("s1x1");
        due(x.undo(), false, "none was KEPT");
        x.rain(0, 1);
        due(x.keep(), 0, "keep");
        x.perform();
        x.rain(0, 2);
        due(x.keep(), 1, "keep once more");
        x.perform();
        x.rain(0, 3);
        due(x.undo(), true, "undo");
        due(x.count(10), 2, "as KEPT last");
        due(x.soFar(0), 1, "as KEPT last");
        x.rain(0, 4);
        due(x.undo(), true, "undo once more");
        due(x.count(10), 2, "as KEPT last, still");
        due(x.keep(), 1, "keep what was UNDONE");
    }

    @Says(of = "Terms", text = "CHECK of an ACT and a row: WET of its SEATS: right, or the first number that is not so.")
    void theFirstNumberThatIsNotSo() {
        law("d[1+x]*l(1=1)");
        score("s1x1/s1x2");
        x.slate(0, 7, 0, 0, 47);
        x.slate(1, 7, 5, 0, 47);
        x.slate(2, 7, 11, 0, 47);
        int[] right = {2, 0, 0, 0, 0, 12, 0, 0, 0, 0, 0, 24};
        due(check(1, 7, right), NONE, "right");
        for (int place = 0; place < 12; place++) {
            int[] wrong = right.clone();
            wrong[place]++;
            wrong[11]++;
            due(check(1, 7, wrong), place, "not so from " + place + " on");
            wrong[place] = -1;
            due(check(1, 7, wrong), place, "-1 at " + place);
        }
        due(check(0, 7, 1, 0, 0, 0, 0, 6), NONE, "another ACT");
        due(check(1, 6, 0, 0, 0, 0, 0, 0), NONE, "another row");
    }

    // ---- of all calls

    @Says(of = "Terms", text = "All memory is the theatre's own.")
    void objectsShareNothing() {
        RainOpera other = new RainOpera();
        furnish();
        x.perform();
        x.keep();
        x.draw();
        due(other.count(0) + other.count(3) + other.count(4), 0, "SCORE, LAW, tape");
        due(other.count(6) + other.count(7) + other.count(8), 0, "SLATES and GUESTS");
        due(other.count(5), 1, "X");
        due(other.count(100) + other.count(200) + other.count(10), 0, "SEATS and RAIN");
        due(other.soFar(0), 0, "EVENINGS");
        due(other.undo(), false, "KEPT");
    }

    /** A theatre in which much is told; on the tape stands a SCORE, b7x7, that has not been read. */
    private void furnish() {
        law("d9+o(p<20);d4(1=1);s(v=2);m1(w>0);q5+r(1=1)");
        score("s10x3,t20x4/a30x5");
        x.seat(0, 0, false, 3);
        x.seat(0, 1, true, 0);
        x.slate(0, 0, 0, 0, 40);
        x.slate(1, 0, 1, 5, 47);
        x.slate(2, 0, 2, 0, 47);
        x.nail(2, true);
        x.rain(0, 3);
        x.guest(0, 5);
        x.guest(1, 7);
        x.sits(0, 0, 0, 0);
        x.sits(1, 0, 0, 2);
        x.sits(1, 1, 0, 0);
        x.guest(9, 3);
        x.sits(9, 3, 7, 11);
        x.seed(77);
        feed("b7x7");
    }

    /** All that can be asked of a furnished theatre; the tape is read at the end. */
    private List<Integer> photo() {
        List<Integer> all = new ArrayList<>();
        for (int what = 0; what < 340; what++) {
            if (what < 14 || what >= 100 && what < 196 || what >= 200 && what < 296 || what >= 300) {
                all.add(x.count(what));
            }
        }
        for (int what = 0; what < 72; what++) {
            if (what != 36) {
                all.add(x.soFar(what));
            }
        }
        for (int i = 0; i < 3; i++) {
            all.add(x.note(i, 1));
            all.add(x.drops(i, 0));
            all.add(x.drops(i, 1));
            all.add(x.house(0, i));
        }
        all.add(x.guestWet(0, 4));
        all.add(x.guestWet(1, 4));
        all.add(x.paid(4));
        all.add(x.sponge(2, 1));
        all.add(x.transposed(1, 0));
        all.add(x.score(4));
        all.add(x.note(0, 0));
        all.add(x.note(0, 1));
        all.add(x.note(0, 2));
        return all;
    }

    private static void demandAlike(List<Integer> before, List<Integer> behind, String what) {
        for (int j = 0; j < before.size(); j++) {
            due(behind.get(j), before.get(j), what + ", question " + j);
        }
    }

    private void refused(List<Integer> before, String what, int want, ToIntFunction<RainOpera> call) {
        x = new RainOpera();
        furnish();
        due(call.applyAsInt(x), want, what);
        demandAlike(before, photo(), "behind " + what);
    }

    private static int bit(boolean is) {
        return is ? 1 : 0;
    }

    @Says(of = "Terms", text = "A call that is refused (NONE, false) changes nothing")
    void refusedCallsThatTellChangeNothing() {
        furnish();
        List<Integer> before = photo();
        refused(before, "seat in row 8", 0, o -> bit(o.seat(8, 0, true, 5)));
        refused(before, "seat at place 12", 0, o -> bit(o.seat(0, 12, true, 5)));
        refused(before, "seat with bucket 100", 0, o -> bit(o.seat(0, 0, true, 100)));
        refused(before, "slate 16", 0, o -> bit(o.slate(16, 0, 0, 0, 47)));
        refused(before, "slate in row 8", 0, o -> bit(o.slate(0, 8, 0, 0, 47)));
        refused(before, "slate of a low above its high", 0, o -> bit(o.slate(2, 0, 0, 9, 8)));
        refused(before, "slate of a high of 48", 0, o -> bit(o.slate(3, 0, 0, 9, 48)));
        refused(before, "nail of an untold one", 0, o -> bit(o.nail(3, true)));
        refused(before, "nail of a NAILED one", 0, o -> bit(o.nail(2, true)));
        refused(before, "no nail of one that is not", 0, o -> bit(o.nail(1, false)));
        refused(before, "rain in ACT 4", 0, o -> bit(o.rain(4, 1)));
        refused(before, "rain of 10", 0, o -> bit(o.rain(0, 10)));
        refused(before, "guest 10", 0, o -> bit(o.guest(10, 1)));
        refused(before, "guest of RANK 100", 0, o -> bit(o.guest(0, 100)));
        refused(before, "guest of RANK 0", 0, o -> bit(o.guest(5, 0)));
        refused(before, "sits of an untold one", 0, o -> bit(o.sits(5, 0, 0, 0)));
        refused(before, "sits in ACT 4", 0, o -> bit(o.sits(0, 4, 0, 0)));
        refused(before, "sits in row 8", 0, o -> bit(o.sits(0, 0, 8, 0)));
        refused(before, "sits at place 12", 0, o -> bit(o.sits(0, 0, 0, 12)));
        refused(before, "sits where another one is", 0, o -> bit(o.sits(0, 0, 0, 2)));
        refused(before, "seed of 65536", 0, o -> bit(o.seed(65536)));
        refused(before, "seed of -1", 0, o -> bit(o.seed(-1)));
        refused(before, "undo", 0, o -> bit(o.undo()));
        x = new RainOpera();
        x.slate(0, 0, 0, 0, 47);
        law("m5(1=1)");
        due(x.perform(), NONE, "perform without a SCORE");
        due(x.soFar(0), 0, "EVENINGS");
        due(x.count(100), 0, "MOULD");
    }

    @Says(of = "Terms", text = "changes nothing but the tape, where it is told.")
    void refusedCallsThatAskChangeNothing() {
        furnish();
        List<Integer> before = photo();
        refused(before, "score of no bytes", NONE, o -> o.score(0));
        refused(before, "score of 21 bytes", NONE, o -> o.score(21));
        refused(before, "score of 201 bytes", NONE, o -> o.score(201));
        refused(before, "law of no bytes", NONE, o -> o.law(0));
        refused(before, "law of 21 bytes", NONE, o -> o.law(21));
        refused(before, "law of 201 bytes", NONE, o -> o.law(201));
        refused(before, "seated in ACT 4", NONE, o -> o.seated(4, 1, 1, 11));
        refused(before, "seated of nobody", NONE, o -> o.seated(0, 0, 0, 11));
        refused(before, "seated on two SEATS", NONE, o -> o.seated(0, 1, 2, 11));
        refused(before, "seated, what 12", NONE, o -> o.seated(0, 1, 1, 12));
        refused(before, "sung in ACT 2", NONE, o -> o.sung(2, 1, 0));
        refused(before, "sung of 11 SEATS", NONE, o -> o.sung(0, 11, 0));
        refused(before, "sung, what 3", NONE, o -> o.sung(0, 1, 3));
        refused(before, "check of 6 numbers", -2, o -> o.check(0, 0, 6));
        refused(before, "check of row 8", -2, o -> o.check(0, 8, 0));
        refused(before, "check of ACT 4", -2, o -> o.check(4, 0, 0));
        refused(before, "nails of nobody", NONE, o -> o.nails(0, 0));
        refused(before, "sponge of 100", NONE, o -> o.sponge(100, 0));
        refused(before, "transposed of GUEST 5", -100, o -> o.transposed(5, 0));
        refused(before, "leftOut of GUEST 5", NONE, o -> o.leftOut(5, 0, NONE));
        refused(before, "paid for ACT 5", NONE, o -> o.paid(5));
        x = new RainOpera();
        furnish();
        int told = x.count(300);
        due(x.seated(0, 1, 1, 11), -2, "a byte that is no SEAT");
        due(x.count(4), 0, "the tape is empty then, as is told");
        due(x.count(300), told, "the GUEST's SEAT");
        feed(96, 0);
        due(x.sung(0, 1, 0), -2, "a byte that is no SEAT");
        due(x.count(4), 0, "the tape is empty then, as is told");
    }

    @Says(of = "Terms", text = "The constants: `NONE = -1`: There is none.")
    void theConstant() {
        due(RainOpera.NONE, -1, "NONE");
    }
}
