/** Promises 11 to 24, 29 and 30: what is asked. */
final class AskingEdges extends Stage {
    private static final int[] NEVER = {-1, LEAST, MOST};

    /** SEAT 0 is WET by 5 in ACT 0 and by 3 in ACT 1; GUEST 0 sits there in all ACTS. */
    private void openForOne() {
        law("dl(1=1)");
        score("s10x5/a10x3");
        x.slate(0, 0, 0, 0, 47);
        x.guest(0, 2);
        for (int act = 0; act < 4; act++) {
            x.sits(0, act, 0, 0);
        }
    }

    @Says(of = "Promise 11", text = {"Of a NOTE of THE SCORE, what 0 VOICE, 1 PITCH, 2 LENGTH, 3 BAR, 4 ACT;", "NONE for others."})
    void noteTellsOrRefuses() {
        due(x.note(0, 0), NONE, "no SCORE");
        score("s0x1|b47x9/t5x5");
        int[][] want = {{0, 0, 1, 0, 0}, {3, 47, 9, 1, 0}, {2, 5, 5, 2, 1}};
        for (int i = 0; i < 3; i++) {
            for (int what = 0; what < 5; what++) {
                due(x.note(i, what), want[i][what], "note(" + i + ", " + what + ")");
            }
            due(x.note(i, 5), NONE, "what 5");
        }
        for (int no : NEVER) {
            due(x.note(no, 0), NONE, "NOTE " + no);
            due(x.note(0, no), NONE, "what " + no);
        }
        due(x.note(3, 0), NONE, "NOTE 3");
        score(many("s1x1", 32, ","));
        due(x.note(31, 1), 1, "NOTE 31");
        due(x.note(32, 1), NONE, "NOTE 32");
    }

    @Says(of = "Promise 12", text = {"DROPS that come by a NOTE through a SLATE (0: it is not open by it, NAILED);", "NONE: no such ones."})
    void dropsTellsOrRefuses() {
        x.slate(0, 0, 0, 10, 20);
        due(x.drops(0, 0), NONE, "no SCORE");
        law("d7(1=1)");
        score("s10x1,s20x1,s9x1,s21x1");
        int[] want = {7, 7, 0, 0};
        for (int i = 0; i < 4; i++) {
            due(x.drops(i, 0), want[i], "NOTE " + i);
        }
        due(x.drops(4, 0), NONE, "NOTE 4");
        due(x.drops(0, 1), NONE, "an untold SLATE");
        due(x.drops(0, 16), NONE, "SLATE 16");
        for (int no : NEVER) {
            due(x.drops(no, 0), NONE, "NOTE " + no);
            due(x.drops(0, no), NONE, "SLATE " + no);
        }
        x.nail(0, true);
        due(x.drops(0, 0), 0, "NAILED");
        due(x.drops(4, 0), NONE, "NOTE 4 through a NAILED one");
        x.nail(0, false);
        law("d7(1=1);s(1=1)");
        due(x.drops(0, 0), 7, "SNOW comes, too");
        x.seat(0, 0, true, 99);
        due(x.drops(0, 0), 7, "UMBRELLA and BUCKET are below it");
    }

    @Says(of = "Promise 13", text = {"How WET a SEAT is in an ACT (4: in all);", "NONE: no such ones."})
    void wetTellsOrRefuses() {
        openForOne();
        int[] want = {5, 3, 0, 0, 8};
        for (int act = 0; act <= 4; act++) {
            due(x.wet(0, 0, act), want[act], "ACT " + act);
            due(x.wet(7, 11, act), 0, "the last SEAT in ACT " + act);
        }
        due(x.wet(0, 0, 5), NONE, "ACT 5");
        due(x.wet(8, 0, 0), NONE, "row 8");
        due(x.wet(0, 12, 0), NONE, "place 12");
        for (int no : NEVER) {
            due(x.wet(no, 0, 0), NONE, "row " + no);
            due(x.wet(0, no, 0), NONE, "place " + no);
            due(x.wet(0, 0, no), NONE, "ACT " + no);
        }
    }

    @Says(of = "Promise 14", text = {"How WET a GUEST is in an ACT (4: in all);", "NONE: no such ones."})
    void guestWetTellsOrRefuses() {
        openForOne();
        int[] want = {5, 3, 0, 0, 8};
        for (int act = 0; act <= 4; act++) {
            due(x.guestWet(0, act), want[act], "ACT " + act);
        }
        x.sits(0, 0, NONE, 0);
        due(x.guestWet(0, 0), 0, "out");
        due(x.guestWet(0, 4), 3, "out in one ACT");
        due(x.guestWet(0, 5), NONE, "ACT 5");
        due(x.guestWet(1, 0), NONE, "an untold GUEST");
        due(x.guestWet(10, 0), NONE, "GUEST 10");
        for (int no : NEVER) {
            due(x.guestWet(no, 0), NONE, "GUEST " + no);
            due(x.guestWet(0, no), NONE, "ACT " + no);
        }
        x.guest(9, 1);
        due(x.guestWet(9, 4), 0, "GUEST 9, out");
    }

    @Says(of = "Promise 15", text = "How WET THE HOUSE is by a NOTE (what 0), a SLATE (1), a VOICE (2), in an ACT (3), of i;")
    void houseTells() {
        law("dl(1=1)");
        score("s10x5,b11x2/b10x3");
        x.slate(0, 0, 0, 10, 10);
        x.slate(15, 7, 11, 10, 11);
        int[][] want = {{10, 2, 6}, {8, -1, -1}, {10, 0, 0, 8}, {12, 6, 0, 0}};
        for (int what = 0; what < 4; what++) {
            for (int i = 0; i < want[what].length; i++) {
                due(x.house(what, i), want[what][i], "house(" + what + ", " + i + ")");
            }
        }
        due(x.house(1, 15), 10, "SLATE 15");
        x.seat(7, 11, false, 99);
        due(x.house(1, 15), 0, "all into a BUCKET");
        due(x.house(0, 1), 0, "all into a BUCKET");
    }

    @Says(of = "Promise 15", text = "NONE: no such ones.")
    void houseRefuses() {
        for (int i = 0; i < 4; i++) {
            due(x.house(2, i), 0, "VOICE " + i + " without a SCORE");
            due(x.house(3, i), 0, "ACT " + i + " without a SCORE");
        }
        due(x.house(0, 0), NONE, "NOTE 0 without a SCORE");
        openForOne();
        due(x.house(0, 2), NONE, "NOTE 2");
        due(x.house(1, 1), NONE, "an untold SLATE");
        due(x.house(1, 16), NONE, "SLATE 16");
        due(x.house(2, 4), NONE, "VOICE 4");
        due(x.house(3, 4), NONE, "ACT 4");
        due(x.house(4, 0), NONE, "what 4");
        for (int no : NEVER) {
            for (int what = 0; what < 4; what++) {
                due(x.house(what, no), NONE, "house(" + what + ", " + no + ")");
            }
            due(x.house(no, 0), NONE, "what " + no);
        }
    }

    @Says(of = "Promise 16", text = {"SEATED for an ACT: GUESTS (bits) by the first n bytes of the tape "
            + "(SEATS, all different, as many; empty then),",
        "what 10 RANK times WET together, 11 as 10, and it is done, else the SEAT of GUEST what;"})
    void seatedTells() {
        openForOne();
        x.guest(9, 3);
        due(seated(0, 0x201, 10, 0, 95), 10, "together");
        due(x.count(4), 0, "empty then");
        due(x.count(300), 0, "nothing is done");
        due(x.count(309), 255, "nothing is done");
        due(seated(0, 0x201, 0, 0, 95), 0, "the SEAT of GUEST 0");
        due(seated(0, 0x201, 9, 0, 95), 95, "the SEAT of GUEST 9");
        due(x.count(309), 255, "nothing is done");
        due(seated(0, 0x201, 11, 94, 0), 10, "done");
        due(x.count(4), 0, "empty then");
        due(x.count(300), 0, "done");
        due(x.count(309), 94, "done");
        due(x.count(319), 255, "not in another ACT");
        due(seated(3, 0x201, 10, 0, 94), 0, "a dry ACT");
        feed(95, 94, 0);
        feed(1);
        due(x.seated(0, 0x201, 2, 10), 0, "the first two bytes");
        due(x.count(4), 0, "empty then, of 40 too");
    }

    @Says(of = "Promise 16", text = "-2: a SEAT there is not, twice, another GUEST's in that ACT;")
    void seatedCannot() {
        openForOne();
        x.guest(1, 3);
        x.guest(2, 3);
        x.sits(2, 0, 7, 11);
        int[][] no = {{96, 1}, {1, 96}, {255, 1}, {128, 1}, {1, 1}, {95, 1}, {1, 95}};
        for (int[] seats : no) {
            for (int what : new int[] {0, 10, 11}) {
                due(seated(0, 3, what, seats), -2, "SEATS " + seats[0] + ", " + seats[1] + ", what " + what);
                due(x.count(4), 0, "empty then");
            }
        }
        due(x.count(300), 0, "nothing is done");
        due(x.count(301), 255, "nothing is done");
        due(seated(1, 3, 10, 1, 95), 0, "in another ACT it is free");
        due(seated(0, 3, 10, 1, 94), 0, "SEATS that there are");
        due(seated(0, 7, 10, 1, 95, 3), 0, "its own one");
    }

    @Says(of = "Promise 16", text = "NONE: no such ones, it has not so many (the tape stays).")
    void seatedRefuses() {
        openForOne();
        x.guest(1, 3);
        due(x.seated(0, 1, 1, 10), NONE, "an empty tape");
        feed(4, 5);
        for (int no : new int[] {-1, 4, LEAST, MOST}) {
            due(x.seated(no, 3, 2, 10), NONE, "ACT " + no);
        }
        for (int guests : new int[] {0, 4, 7, 1 << 10, 3 | 1 << 10, 1 << 31, 3 | 1 << 31, -1, LEAST, MOST}) {
            due(x.seated(0, guests, Integer.bitCount(guests), 10), NONE, "GUESTS " + guests);
            due(x.seated(0, guests, 2, 10), NONE, "GUESTS " + guests);
        }
        for (int n : new int[] {1, 3, 0, -2, 20, LEAST, MOST}) {
            due(x.seated(0, 3, n, 10), NONE, "n " + n);
        }
        for (int what : new int[] {2, 9, 12, -1, 32, LEAST, MOST}) {
            due(x.seated(0, 3, 2, what), NONE, "what " + what);
        }
        due(x.count(4), 20, "the tape stays");
        due(x.seated(0, 3, 2, 11), 0, "its bytes stay");
        due(x.count(300), 4, "its bytes stay");
    }

    @Says(of = "Promise 17", text = {"TRANSPOSED for a GUEST, what 0 by how much (-12 to 12), 1 how WET it is then;",
        "-100: no such ones, no NOTES."})
    void transposedTellsOrRefuses() {
        x.guest(0, 1);
        due(x.transposed(0, 0), -100, "no NOTES");
        due(x.transposed(0, 1), -100, "no NOTES");
        openForOne();
        x.slate(0, 0, 0, 0, 21);
        due(x.transposed(0, 0), 12, "by 12");
        due(x.transposed(0, 1), 0, "how WET");
        score("s30x5");
        x.slate(0, 0, 0, 19, 47);
        due(x.transposed(0, 0), -12, "by -12");
        due(x.transposed(0, 1), 0, "how WET");
        x.slate(0, 0, 0, 0, 47);
        due(x.transposed(0, 0), 0, "by 0");
        due(x.transposed(0, 1), 5, "how WET");
        for (int no : NEVER) {
            due(x.transposed(no, 0), -100, "GUEST " + no);
            due(x.transposed(0, no), -100, "what " + no);
        }
        due(x.transposed(0, 2), -100, "what 2");
        due(x.transposed(1, 0), -100, "an untold GUEST");
        due(x.transposed(10, 0), -100, "GUEST 10");
        x.guest(9, 1);
        due(x.transposed(9, 0), 0, "GUEST 9, out");
        due(x.transposed(9, 1), 0, "GUEST 9, out");
        due(x.note(0, 1), 30, "THE SCORE stays");
    }

    @Says(of = "Promise 18", text = "LEFT OUT of an ACT for a GUEST, what NONE how many (0: it is out, or not WET), else the NOTE at place what;")
    void leftOutTells() {
        openForOne();
        score("s10x5,s10x1,s10x2/a10x3");
        due(x.leftOut(0, 0, NONE), 3, "how many");
        for (int place = 0; place < 3; place++) {
            due(x.leftOut(0, 0, place), place, "place " + place);
        }
        due(x.leftOut(0, 1, NONE), 1, "in ACT 1");
        due(x.leftOut(0, 1, 0), 3, "in ACT 1");
        due(x.leftOut(0, 2, NONE), 0, "not WET");
        due(x.leftOut(0, 3, NONE), 0, "not WET");
        x.sits(0, 0, NONE, 0);
        due(x.leftOut(0, 0, NONE), 0, "out");
        x.sits(0, 0, 0, 0);
        x.seat(0, 0, false, 8);
        due(x.leftOut(0, 0, NONE), 0, "not WET");
    }

    @Says(of = "Promise 18", text = "-2: it can't be (SNOW), no such place;")
    void leftOutCannot() {
        openForOne();
        due(x.leftOut(0, 0, 1), -2, "no such place");
        due(x.leftOut(0, 2, 0), -2, "no such place: not WET");
        due(x.leftOut(0, 0, -2), -2, "place -2");
        due(x.leftOut(0, 0, LEAST), -2, "the least place");
        due(x.leftOut(0, 0, MOST), -2, "the most place");
        x.sits(0, 0, NONE, 0);
        due(x.leftOut(0, 0, 0), -2, "no such place: out");
        x.sits(0, 0, 0, 0);
        law("dl(1=1);s(v=0)");
        due(x.leftOut(0, 1, NONE), -2, "SNOW");
        due(x.leftOut(0, 1, 0), -2, "SNOW");
        x.seat(0, 0, false, 4);
        due(x.leftOut(0, 1, NONE), -2, "SNOW, one more than the BUCKET holds");
        x.seat(0, 0, false, 5);
        due(x.leftOut(0, 1, NONE), 1, "SNOW that the BUCKET holds");
        due(x.leftOut(0, 1, 0), 1, "SNOW that the BUCKET holds");
    }

    @Says(of = "Promise 18", text = "NONE also: no such ones.")
    void leftOutRefuses() {
        openForOne();
        due(x.leftOut(1, 0, NONE), NONE, "an untold GUEST");
        due(x.leftOut(10, 0, 0), NONE, "GUEST 10");
        due(x.leftOut(0, 4, NONE), NONE, "ACT 4");
        due(x.leftOut(0, 4, 0), NONE, "ACT 4");
        for (int no : NEVER) {
            due(x.leftOut(no, 0, 0), NONE, "GUEST " + no);
            due(x.leftOut(0, no, 0), NONE, "ACT " + no);
        }
    }

    @Says(of = "Promise 19", text = {"NAILS for GUESTS (bits, not empty), what 0 how many, 1 which (bits);", "NONE: no such ones."})
    void nailsTellsOrRefuses() {
        openForOne();
        x.slate(15, 0, 0, 0, 47);
        x.guest(9, 1);
        due(x.nails(1, 0), 2, "how many");
        due(x.nails(1, 1), 0x8001, "which");
        due(x.nails(0x200, 0), 0, "GUEST 9 is out");
        due(x.nails(0x200, 1), 0, "GUEST 9 is out");
        due(x.nails(0x201, 1), 0x8001, "both");
        for (int guests : new int[] {0, 2, 3, 1 << 10, 1 | 1 << 31, LEAST, MOST, -1}) {
            due(x.nails(guests, 0), NONE, "GUESTS " + guests);
            due(x.nails(guests, 1), NONE, "GUESTS " + guests);
        }
        due(x.nails(1, 2), NONE, "what 2");
        for (int no : NEVER) {
            due(x.nails(1, no), NONE, "what " + no);
        }
        due(x.count(7), 0, "nothing is NAILED by it");
    }

    @Says(of = "Promise 20", text = {"SUNG in an ACT of THE SCORE, by the first 2 n bytes of the tape (a SEAT, how WET; n 1 to 20; empty then),",
        "what 0 how many sets, 1 the first, 2 BARS in all;"})
    void sungTells() {
        openForOne();
        score("s10x5|s10x5/s10x3|s10x4");
        due(sung(0, 0, 0, 5), 2, "how many sets");
        due(x.count(4), 0, "empty then");
        due(sung(0, 1, 0, 5), 1, "the first");
        due(sung(0, 2, 0, 5), 0, "BARS in all");
        due(sung(1, 1, 0, 4), 2, "in ACT 1");
        due(sung(1, 2, 0, 4), 2, "in ACT 1");
        feed(0, 10, 95, 1);
        feed(1);
        due(x.sung(0, 1, 1), 3, "the first pair alone");
        due(x.count(4), 0, "empty then, of 40 too");
        int[] twenty = new int[40];
        for (int t = 0; t < 20; t++) {
            twenty[2 * t] = t;
        }
        twenty[1] = 10;
        due(sung(0, 0, twenty), 1, "20 SEATS");
        twenty[39] = 1;
        due(sung(0, 0, twenty), 0, "20 SEATS, the last not so");
        int[] dry = new int[40];
        for (int t = 0; t < 20; t++) {
            dry[2 * t] = 95 - t;
        }
        due(sung(0, 0, dry), 4, "20 SEATS, all dry");
        law("d99(1=1)");
        score("s1x1,s1x1|s1x1");
        x.seat(0, 0, false, 42);
        due(sung(0, 1, 0, 255), 3, "WET by 255");
        x.seat(0, 0, false, 41);
        due(sung(0, 0, 0, 255), 0, "WET by 256");
        due(sung(0, 0, 0, 0), 1, "256 is not 0");
    }

    @Says(of = "Promise 20", text = "-2: none (of 1, 2), no such SEATS;")
    void sungCannot() {
        openForOne();
        due(sung(0, 0, 0, 4), 0, "no sets");
        due(sung(0, 1, 0, 4), -2, "the first of none");
        due(sung(0, 2, 0, 4), -2, "BARS in all of none");
        for (int seat : new int[] {96, 128, 255}) {
            for (int what = 0; what < 3; what++) {
                due(sung(0, what, seat, 0), -2, "SEAT " + seat + ", what " + what);
                due(sung(0, what, 0, 5, seat, 0), -2, "SEAT " + seat + " behind another, what " + what);
                due(x.count(4), 0, "empty then");
            }
        }
        due(sung(0, 1, 95, 0), 0, "SEAT 95");
        due(sung(0, 0, 0, 4, 96, 0), -2, "no SEAT, where there is no set either");
    }

    @Says(of = "Promise 20", text = "NONE: no such ones, it has not so many (the tape stays).")
    void sungRefuses() {
        feed(0, 5);
        due(x.sung(0, 1, 0), NONE, "no SCORE");
        due(x.count(4), 20, "the tape stays");
        emptyTape();
        openForOne();
        due(x.sung(0, 1, 0), NONE, "an empty tape");
        feed(0, 5);
        for (int act : new int[] {2, 3, 4, -1, LEAST, MOST}) {
            due(x.sung(act, 1, 0), NONE, "ACT " + act);
        }
        for (int n : new int[] {0, -1, 11, 20, 21, 1 << 30, LEAST, MOST}) {
            due(x.sung(0, n, 0), NONE, "n " + n + " of 20 bytes");
        }
        for (int what : new int[] {3, -1, LEAST, MOST}) {
            due(x.sung(0, 1, what), NONE, "what " + what);
        }
        due(x.count(4), 20, "the tape stays");
        due(x.sung(0, 1, 1), 1, "its bytes stay");
        feed(new int[60]);
        due(x.sung(0, 21, 0), NONE, "n 21 of 60 bytes");
        due(x.count(4), 60, "the tape stays");
        due(x.sung(0, 20, 0), 1, "n 20 of 60 bytes");
    }

    @Says(of = "Promise 21", text = {"A SPONGE that holds n (1 to 99), what 0 the SEAT, 1 how much less;", "NONE: no such ones."})
    void spongeTellsOrRefuses() {
        openForOne();
        x.slate(1, 7, 11, 0, 47);
        x.guest(1, 99);
        x.sits(1, 0, 7, 11);
        due(x.sponge(1, 0), 95, "the SEAT");
        due(x.sponge(1, 1), 99, "how much less, by 1");
        due(x.sponge(99, 0), 95, "the SEAT");
        due(x.sponge(99, 1), 495, "how much less, by 99");
        for (int n : new int[] {0, -1, 100, LEAST, MOST}) {
            due(x.sponge(n, 0), NONE, "n " + n);
            due(x.sponge(n, 1), NONE, "n " + n);
        }
        due(x.sponge(1, 2), NONE, "what 2");
        for (int no : NEVER) {
            due(x.sponge(1, no), NONE, "what " + no);
        }
        due(x.wet(7, 11, 0), 5, "it is not there by asking");
    }

    @Says(of = "Promise 22", text = {"PAID for an ACT (4: for all);", "NONE: no such one."})
    void paidTellsOrRefuses() {
        law("q10+a(1=1)");
        x.guest(0, 1);
        for (int act = 0; act < 4; act++) {
            due(x.paid(act), 0, "out in ACT " + act);
            x.sits(0, act, 0, 0);
            due(x.paid(act), 10 + act, "ACT " + act);
        }
        due(x.paid(4), 46, "for all");
        due(x.paid(5), NONE, "ACT 5");
        for (int no : NEVER) {
            due(x.paid(no), NONE, "ACT " + no);
        }
        due(x.soFar(1), 0, "nothing is paid by asking");
    }

    @Says(of = "Promise 23", text = {"PERFORMED: how WET THE HOUSE was;", "NONE: no SCORE."})
    void performTellsOrRefuses() {
        law("d9(1=1);m5(1=1);q5(1=1)");
        x.slate(0, 0, 0, 0, 47);
        x.guest(0, 1);
        x.sits(0, 0, 7, 7);
        due(x.perform(), NONE, "no SCORE");
        due(x.soFar(0), 0, "EVENINGS");
        due(x.soFar(1), 0, "PAID");
        due(x.count(100), 0, "MOULD");
        due(score("q"), -1000, "a FAULT");
        due(x.perform(), NONE, "no SCORE still");
        score("s1x1/s1x1");
        due(x.perform(), 18, "how WET THE HOUSE was");
        due(x.soFar(0), 1, "EVENINGS");
        due(x.count(195), 5, "MOULD");
        x.nail(0, true);
        due(x.perform(), 0, "a dry evening");
    }

    @Says(of = "Promise 24", text = "So far, what 0 EVENINGS, 1 PAID, 10 + g how WET told GUEST g was (whoever it was),")
    void soFarTellsOfGuests() {
        openForOne();
        law("dl(1=1);q7(1=1)");
        x.guest(9, 1);
        x.sits(9, 0, 7, 11);
        x.perform();
        due(x.soFar(0), 1, "EVENINGS");
        due(x.soFar(1), 7 + 7 + 7, "PAID: GUEST 0 in ACTS 2 and 3, GUEST 9 in ACT 0");
        due(x.soFar(10), 8, "GUEST 0");
        due(x.soFar(19), 0, "GUEST 9");
        due(x.soFar(11), NONE, "an untold GUEST");
        x.guest(1, 1);
        due(x.soFar(11), 0, "one that is told behind it");
        x.guest(0, 5);
        due(x.soFar(10), 8, "whoever it was");
        x.perform();
        due(x.soFar(10), 8, "the new one is out");
        x.sits(0, 1, 0, 0);
        x.perform();
        due(x.soFar(10), 11, "the new one is WET, too");
    }

    @Says(of = "Promise 24", text = {"20 + k LED to SLATE k, 40 + i LED to NOTE i (by numbers, of whatever SCORE);", "NONE for others."})
    void soFarTellsOfSlatesAndNotes() {
        due(x.soFar(20), 0, "SLATE 0");
        due(x.soFar(35), 0, "SLATE 15");
        due(x.soFar(40), 0, "NOTE 0");
        due(x.soFar(71), 0, "NOTE 31");
        openForOne();
        x.slate(15, 0, 0, 10, 10);
        x.perform();
        due(x.soFar(20), 8, "SLATE 0");
        due(x.soFar(35), 8, "SLATE 15");
        due(x.soFar(40), 10, "NOTE 0");
        due(x.soFar(41), 6, "NOTE 1");
        x.slate(0, 5, 5, 10, 10);
        due(x.soFar(20), 8, "another SLATE in its place");
        score("t10x1");
        due(x.soFar(41), 6, "of whatever SCORE");
        x.perform();
        due(x.soFar(40), 12, "of whatever SCORE");
        due(x.soFar(20), 9, "by its number");
        score(many("s10x1", 32, ","));
        x.perform();
        due(x.soFar(71), 2, "the last NOTE");
        for (int what : new int[] {2, 9, 36, 39, 72, -1, LEAST, MOST}) {
            due(x.soFar(what), NONE, "what " + what);
        }
        for (int g = 1; g < 10; g++) {
            due(x.soFar(10 + g), NONE, "untold GUEST " + g);
        }
    }

    @Says(of = "Promise 29", text = "CHECK of an ACT and a row by the first n numbers of the tape (0 to 12; four bytes each; empty then):")
    void checkReadsTheFirstNumbers() {
        openForOne();
        due(check(0, 0), NONE, "no numbers of an empty tape");
        feed(1);
        due(x.check(0, 0, 0), NONE, "no numbers of twenty bytes");
        due(x.count(4), 0, "empty then");
        feedNumbers(5, 0, 9);
        due(x.check(0, 0, 2), NONE, "the first two of them");
        due(x.count(4), 0, "empty then");
        due(check(0, 0, 5, 0, 0, 0, 0, 0, 0, 0, 0, 0, 0, 0), NONE, "twelve");
        due(check(0, 0, 5, 0, 0, 0, 0, 0, 0, 0, 0, 0, 0, 1), 11, "twelve, the last not so");
        due(x.count(4), 0, "empty then, too");
        for (int bit = 8; bit < 32; bit += 8) {
            due(check(0, 0, 5 | 1 << bit), 0, "all four bytes count");
        }
        for (int act = 0; act < 4; act++) {
            due(check(act, 7, 0), NONE, "row 7 of ACT " + act);
        }
        law("d99(1=1)");
        score(many("s10x1", 31, ","));
        for (int k = 0; k < 16; k++) {
            x.slate(k, 0, 0, 0, 47);
        }
        due(check(0, 0, 31 * 16 * 99), NONE, "two bytes of four are not 0");
        due(check(0, 0, 31 * 16 * 99 + (1 << 16)), 0, "three bytes of four are not 0");
    }

    @Says(of = "Promise 29", text = "NONE: right; else the place of the first number that is not so;")
    void checkTells() {
        openForOne();
        due(check(0, 0, 5, 0, 0), NONE, "right");
        due(check(0, 0, 4, 0, 0), 0, "one less");
        due(check(0, 0, 6, 0, 0), 0, "one more");
        due(check(0, 0, 5, 0, -1), 2, "-1");
        due(check(0, 0, 5, 1, 1), 1, "the first of two");
        due(check(1, 0, 3), NONE, "in ACT 1");
        due(check(1, 0, 5), 0, "in ACT 1");
        due(check(0, 0, LEAST), 0, "the least");
        due(check(0, 0, MOST), 0, "the most");
    }

    @Says(of = "Promise 29", text = "-2: no such ones, it has not so many (the tape stays).")
    void checkRefuses() {
        openForOne();
        due(x.check(0, 0, 1), -2, "an empty tape");
        feedNumbers(5, 0, 0, 0, 0);
        for (int no : NEVER) {
            due(x.check(no, 0, 1), -2, "ACT " + no);
            due(x.check(0, no, 1), -2, "row " + no);
            due(x.check(0, 0, no), -2, "n " + no);
        }
        due(x.check(4, 0, 1), -2, "ACT 4");
        due(x.check(0, 8, 1), -2, "row 8");
        due(x.check(0, 0, 13), -2, "n 13");
        due(x.check(0, 0, 6), -2, "n 6 of twenty bytes");
        due(x.check(0, 0, 1 << 30), -2, "four times n is 0 with 32 bits");
        due(x.check(0, 0, 1 | 1 << 30), -2, "four times n is 4 with 32 bits");
        due(x.count(4), 20, "the tape stays");
        due(x.check(0, 0, 5), NONE, "its bytes stay");
        feed(new int[60]);
        due(x.check(2, 0, 13), -2, "n 13 of sixty bytes");
        due(x.count(4), 60, "the tape stays");
        due(x.check(2, 0, 12), NONE, "n 12 of sixty bytes");
    }

    @Says(of = "Promise 30", text = "0 NOTES, 1 BARS, 2 ACTS of THE SCORE, 3 CLAUSES, 4 bytes of the tape, 5 X, "
            + "6 told SLATES, 7 NAILED ones, 8 told GUESTS (bits each);")
    void countTellsOfTexts() {
        score("s1x1,s1x1|s1x1/s1x1,s1x1,s1x1");
        law("s(1=1);s(1=1);s(1=1);s(1=1)");
        feed(0);
        x.slate(0, 0, 0, 0, 0);
        x.slate(15, 0, 0, 0, 0);
        x.nail(15, true);
        x.guest(1, 1);
        x.guest(9, 1);
        int[] want = {6, 3, 2, 4, 20, 1, 0x8001, 0x8000, 0x202};
        for (int what = 0; what < want.length; what++) {
            due(x.count(what), want[what], "count(" + what + ")");
        }
        for (int k = 0; k < 16; k++) {
            x.slate(k, 0, 0, 0, 0);
            x.nail(k, true);
        }
        for (int g = 0; g < 10; g++) {
            x.guest(g, 1);
        }
        due(x.count(6), 0xffff, "all SLATES");
        due(x.count(7), 0xffff, "all SLATES");
        due(x.count(8), 0x3ff, "all GUESTS");
    }

    @Says(of = "Promise 30", text = "10 + a RAIN of ACT a, 100 + s MOULD, 200 + s the BUCKET of SEAT s (1000 more with an UMBRELLA), "
            + "300 + 10 a + g the SEAT of told GUEST g in ACT a (255: out).")
    void countTellsOfTheHouse() {
        law("m1(y=0&x=0);m2(y=7&x=11)");
        score("s1x1");
        x.perform();
        x.rain(0, 4);
        x.rain(3, 9);
        x.seat(0, 0, false, 99);
        x.seat(7, 11, true, 98);
        x.guest(0, 1);
        x.guest(9, 1);
        x.sits(0, 0, 0, 0);
        x.sits(9, 3, 7, 11);
        int[][] want = {{10, 4}, {11, 0}, {13, 9}, {100, 1}, {101, 0}, {194, 0}, {195, 2}, {200, 99}, {201, 0}, {294, 0},
            {295, 1098}, {300, 0}, {309, 255}, {310, 255}, {330, 255}, {339, 95}, {301, NONE}, {338, NONE}};
        for (int[] pair : want) {
            due(x.count(pair[0]), pair[1], "count(" + pair[0] + ")");
        }
        x.seat(7, 11, true, 0);
        due(x.count(295), 1000, "an empty BUCKET with an UMBRELLA");
    }

    @Says(of = "Promise 30", text = "NONE for others.")
    void countRefuses() {
        for (int g = 0; g < 10; g++) {
            x.guest(g, 1);
        }
        int[][] gaps = {{9, 9}, {14, 99}, {196, 199}, {296, 299}, {340, 360}, {1000, 1010}};
        for (int[] gap : gaps) {
            for (int what = gap[0]; what <= gap[1]; what++) {
                due(x.count(what), NONE, "count(" + what + ")");
            }
        }
        for (int no : NEVER) {
            due(x.count(no), NONE, "count(" + no + ")");
        }
    }
}
