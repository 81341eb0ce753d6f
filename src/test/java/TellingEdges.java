/** Promises 1 to 10 and 25 to 28: what is told. */
final class TellingEdges extends Stage {
    @Says(of = "Promise 1", text = "No SLATES, GUESTS, SCORE, LAW; THE SEED 1.")
    void aNewObject() {
        due(x.count(6), 0, "told SLATES");
        due(x.count(7), 0, "NAILED ones");
        due(x.count(8), 0, "told GUESTS");
        for (int what = 0; what <= 4; what++) {
            due(x.count(what), 0, "count(" + what + ")");
        }
        due(x.count(5), 1, "X");
        for (int what = 300; what < 340; what++) {
            due(x.count(what), NONE, "count(" + what + ")");
        }
        for (int g = 0; g < 10; g++) {
            due(x.soFar(10 + g), NONE, "GUEST " + g);
            due(x.guestWet(g, 4), NONE, "GUEST " + g);
        }
        for (int k = 0; k < 16; k++) {
            due(x.house(1, k), NONE, "SLATE " + k);
            due(x.nail(k, false), false, "SLATE " + k);
        }
        due(x.soFar(0), 0, "EVENINGS");
        due(x.soFar(1), 0, "PAID");
        due(x.undo(), false, "nothing is KEPT");
    }

    @Says(of = "Promise 2", text = "UMBRELLA and BUCKET of a SEAT: true;")
    void seatTellsUmbrellaAndBucket() {
        for (int row = 0; row < 8; row += 7) {
            for (int place = 0; place < 12; place += 11) {
                int s = 12 * row + place;
                due(x.seat(row, place, true, 99), true, "SEAT " + s);
                due(x.count(200 + s), 1099, "SEAT " + s);
                due(x.seat(row, place, true, 99), true, "SEAT " + s + " once more");
                due(x.seat(row, place, false, 1), true, "SEAT " + s);
                due(x.count(200 + s), 1, "SEAT " + s);
            }
        }
        due(x.count(201), 0, "another SEAT");
    }

    @Says(of = "Promise 2", text = "false: no such ones.")
    void seatRefuses() {
        x.seat(0, 0, true, 50);
        int[][] no = {{-1, 0, 1}, {8, 0, 1}, {0, -1, 1}, {0, 12, 1}, {0, 0, -1}, {0, 0, 100}, {LEAST, 0, 1}, {MOST, 0, 1},
            {0, LEAST, 1}, {0, MOST, 1}, {0, 0, LEAST}, {0, 0, MOST}};
        for (int[] n : no) {
            due(x.seat(n[0], n[1], false, n[2]), false, n[0] + ", " + n[1] + ", " + n[2]);
        }
        due(x.count(200), 1050, "as it was");
    }

    @Says(of = "Promise 3", text = "A SLATE (in place of the one before; not NAILED): true;")
    void slateStandsInPlaceOfTheOneBefore() {
        law("d5(1=1)");
        score("s10x1,s20x1");
        due(x.slate(0, 0, 0, 10, 10), true, "a new one");
        due(x.wet(0, 0, 0), 5, "below it");
        due(x.nail(0, true), true, "nail");
        due(x.slate(0, 7, 11, 20, 20), true, "another one in its place");
        due(x.count(7), 0, "it is not NAILED");
        due(x.count(6), 1, "one SLATE");
        due(x.wet(0, 0, 0), 0, "below the one before");
        due(x.wet(7, 11, 0), 5, "below it");
        due(x.drops(0, 0), 0, "by a PITCH of the one before");
        due(x.drops(1, 0), 5, "by its PITCH");
        due(x.slate(15, 7, 11, 0, 47), true, "the last one");
        due(x.count(6), 0x8001, "two SLATES");
        x.nail(0, true);
        x.nail(15, true);
        due(x.slate(15, 7, 11, 0, 47), true, "the last one again");
        due(x.count(7), 1, "it is not NAILED, SLATE 0 is");
    }

    @Says(of = "Promise 3", text = "false: no such ones.")
    void slateRefuses() {
        law("d5(1=1)");
        score("s10x1");
        x.slate(0, 0, 0, 10, 10);
        x.nail(0, true);
        int[][] no = {{-1, 0, 0, 0, 0}, {16, 0, 0, 0, 0}, {0, -1, 0, 0, 0}, {0, 8, 0, 0, 0}, {0, 0, -1, 0, 0},
            {0, 0, 12, 0, 0}, {0, 0, 0, -1, 0}, {0, 0, 0, 0, 48}, {0, 0, 0, 1, 0}, {0, 0, 0, 48, 48}, {0, 0, 0, 47, 46},
            {LEAST, 0, 0, 0, 0}, {MOST, 0, 0, 0, 0}, {0, 0, 0, LEAST, 0}, {0, 0, 0, 0, MOST}};
        for (int[] n : no) {
            due(x.slate(n[0], n[1], n[2], n[3], n[4]), false, n[0] + ", " + n[1] + ", " + n[2] + ", " + n[3] + ", " + n[4]);
        }
        due(x.count(6), 1, "told SLATES");
        due(x.count(7), 1, "NAILED still");
        x.nail(0, false);
        due(x.wet(0, 0, 0), 5, "as it was");
    }

    @Says(of = "Promise 4", text = {"NAILED, or not: true;", "false: there is no such SLATE, it is so."})
    void nailTellsOrRefuses() {
        for (int k = 0; k < 16; k += 15) {
            due(x.nail(k, true), false, "no such SLATE " + k);
            due(x.nail(k, false), false, "no such SLATE " + k);
            x.slate(k, 0, 0, 0, 47);
            due(x.nail(k, false), false, "it is so");
            due(x.nail(k, true), true, "nail");
            due(x.count(7), 1 << k, "NAILED ones");
            due(x.nail(k, true), false, "it is so");
            due(x.count(7), 1 << k, "NAILED ones");
            due(x.nail(k, false), true, "not NAILED");
            due(x.count(7), 0, "NAILED ones");
        }
        for (int k : new int[] {-1, 16, 32, -32, LEAST, MOST}) {
            due(x.nail(k, true), false, "SLATE " + k);
        }
    }

    @Says(of = "Promise 5", text = {"RAIN of an ACT: true;", "false: no such ones."})
    void rainTellsOrRefuses() {
        for (int act = 0; act < 4; act++) {
            due(x.rain(act, 9 - act), true, "ACT " + act);
        }
        due(x.rain(3, 0), true, "0");
        int[][] no = {{-1, 1}, {4, 1}, {0, -1}, {0, 10}, {LEAST, 1}, {MOST, 1}, {0, LEAST}, {0, MOST}};
        for (int[] n : no) {
            due(x.rain(n[0], n[1]), false, n[0] + ", " + n[1]);
        }
        int[] want = {9, 8, 7, 0};
        for (int act = 0; act < 4; act++) {
            due(x.count(10 + act), want[act], "ACT " + act);
        }
    }

    @Says(of = "Promise 6", text = {"A GUEST (in place of the one before; out in all ACTS): true;", "false: no such ones."})
    void guestTellsOrRefuses() {
        law("d1(1=1)");
        score("s1x1");
        x.slate(0, 0, 0, 0, 47);
        int[][] no = {{-1, 1}, {10, 1}, {0, 0}, {0, 100}, {0, -1}, {LEAST, 1}, {MOST, 1}, {0, LEAST}, {0, MOST}};
        for (int[] n : no) {
            due(x.guest(n[0], n[1]), false, n[0] + ", " + n[1]);
        }
        due(x.count(8), 0, "told GUESTS");
        due(x.guest(9, 99), true, "GUEST 9");
        due(x.guest(0, 1), true, "GUEST 0");
        due(x.count(8), 0x201, "told GUESTS");
        for (int act = 0; act < 4; act++) {
            x.sits(9, act, 0, act);
        }
        for (int[] n : no) {
            due(x.guest(n[0], n[1]), false, n[0] + ", " + n[1]);
        }
        due(x.sponge(1, 1), 99, "RANK 99");
        due(x.guest(9, 7), true, "in place of the one before");
        for (int act = 0; act < 4; act++) {
            due(x.count(309 + 10 * act), 255, "out in ACT " + act);
        }
        due(x.sits(0, 0, 0, 0), true, "its SEAT is free");
        x.sits(0, 0, NONE, 0);
        x.sits(9, 0, 0, 0);
        due(x.sponge(1, 1), 7, "RANK 7");
    }

    @Says(of = "Promise 7", text = "A told GUEST's SEAT in an ACT (row NONE: out): true;")
    void sitsTellsASeat() {
        x.guest(0, 1);
        due(x.sits(0, 0, 0, 0), true, "the first SEAT");
        due(x.count(300), 0, "the first SEAT");
        due(x.sits(0, 3, 7, 11), true, "the last SEAT");
        due(x.count(330), 95, "the last SEAT");
        due(x.sits(0, 3, 7, 11), true, "it is there itself");
        due(x.sits(0, 3, NONE, 0), true, "out");
        due(x.count(330), 255, "out");
        due(x.sits(0, 3, NONE, 0), true, "it is out");
        due(x.count(300), 0, "in the other ACT it sits");
        for (int place : new int[] {-1, 12, LEAST, MOST}) {
            x.sits(0, 0, 0, 0);
            due(x.sits(0, 0, NONE, place), true, "out, whatever the place is");
            due(x.count(300), 255, "out");
        }
    }

    @Says(of = "Promise 7", text = "false: no such ones, another one is there.")
    void sitsRefuses() {
        x.guest(0, 1);
        x.guest(1, 1);
        x.sits(0, 0, 0, 0);
        x.sits(1, 0, 7, 11);
        int[][] no = {{2, 0, 0, 1}, {-1, 0, 0, 1}, {10, 0, 0, 1}, {0, -1, 0, 1}, {0, 4, 0, 1}, {0, 0, -2, 1}, {0, 0, 8, 1},
            {0, 0, 0, -1}, {0, 0, 0, 12}, {0, 0, 7, 11}, {2, 0, NONE, 0}, {0, 4, NONE, 0}, {0, 0, LEAST, 0}, {0, 0, MOST, 0}};
        for (int[] n : no) {
            due(x.sits(n[0], n[1], n[2], n[3]), false, n[0] + ", " + n[1] + ", " + n[2] + ", " + n[3]);
        }
        due(x.count(300), 0, "as it was");
        due(x.count(301), 95, "as it was");
        due(x.sits(1, 0, 0, 0), false, "another one is there");
        due(x.count(301), 95, "as it was");
    }

    @Says(of = "Promise 8", text = "Twenty bytes come behind the tape, the highest of each int first: how many it has;")
    void feedPutsTwentyBytesBehindTheTape() {
        due(x.count(4), 0, "an empty tape");
        due(x.feed(0x73317831, 0x2c613278, 0x327c7433, 0x78332f62, 0x34783461), 20, "s1x1,a2x2|t3x3/b4x4");
        due(x.score(19), 4, "all of its bytes in a row");
        due(x.note(3, 0), 3, "the last NOTE");
        due(x.count(4), 0, "empty then");
        x.feed(0x61616161, 0x61616161, 0x61616161, 0x61616161, 0x61616161);
        emptyTape();
        due(x.feed(0x73317831, 0x2c613278, 0x322c7433, 0x78332c62, 0x3478342c), 20, "s1x1,a2x2,t3x3,b4x4,");
        due(x.feed(0x62357835, 0, 0, 0, -1), 40, "b5x5 behind it");
        due(x.score(24), 5, "both in a row");
        x.feed(-1, 0x80000000, LEAST, MOST, -2);
        due(x.check(0, 0, 0), NONE, "bytes of all kinds");
        feedNumbers(-1, LEAST, MOST, 0, 1);
        due(x.score(1), -1000, "byte 255 is no VOICE");
    }

    @Says(of = "Promise 8", text = "NONE if that would be more than 220.")
    void theTapeHas220BytesAtMost() {
        for (int n = 1; n <= 10; n++) {
            due(x.feed(0x73317831, 0x2c733178, 0x312c7331, 0x78312c73, 0x3178312c), 20 * n, "s1x1, four times");
        }
        due(x.feed(0, 0, 0, 0, 0), 220, "just 220");
        due(x.feed(0x61616161, 0, 0, 0, 0), NONE, "240");
        due(x.feed(0x61616161, 0, 0, 0, 0), NONE, "240 once more");
        due(x.count(4), 220, "the tape stays");
        due(x.score(19), 4, "its first bytes stay");
        due(x.feed(0, 0, 0, 0, 0), 20, "there is room again");
    }

    @Says(of = "Promise 9", text = "THE SCORE by the first n bytes of the tape (1 to 200; empty then), in place of the one before: how many NOTES;")
    void scoreReadsTheFirstBytes() {
        feed("s1x1,a2x2/b3x3");
        due(x.score(9), 2, "nine bytes of them");
        due(x.count(4), 0, "empty then");
        due(x.count(0), 2, "NOTES");
        due(x.note(1, 1), 2, "the second NOTE");
        due(score("t9x9"), 1, "another one");
        due(x.count(0), 1, "in place of the one before");
        due(x.note(0, 0), 2, "in place of the one before");
        due(x.note(1, 0), NONE, "in place of the one before");
        due(x.count(1), 1, "BARS");
        due(x.count(2), 1, "ACTS");
        feed("s");
        due(x.score(1), -1001, "one byte is read");
        due(x.count(4), 0, "empty then");
        feed(new int[220]);
        due(x.score(200), -1000, "200 bytes are read");
        due(x.count(4), 0, "empty then, of 220 too");
        feed("s1x1");
        feed("s2x2");
        due(x.score(20), -1004, "all of the first 20");
        due(score(many("s47x9", 32, ",")), 32, "the longest one");
    }

    @Says(of = "Promise 9", text = "a FAULT: -1000 times its number, less its place (the one before stays);")
    void scoreTellsAFault() {
        score("t9x9|b8x8/a7x7");
        String[] texts = {"q", "s1x1q", "s48x1", "s1x1,s48x1", many("s1x1", 32, ",") + ",s", many("s1x1", 4, "/") + "/",
            many("s1x1", 12, "|") + "|"};
        int[] want = {-1000, -1004, -3001, -3006, -4160, -6019, -6059};
        for (int j = 0; j < texts.length; j++) {
            due(score(texts[j]), want[j], texts[j]);
            due(x.count(4), 0, "the tape is empty then");
            due(x.count(0), 3, "NOTES of the one before");
            due(x.count(1), 3, "BARS of the one before");
            due(x.count(2), 2, "ACTS of the one before");
            due(x.note(0, 1), 9, "the first NOTE of the one before");
            due(x.note(2, 1), 7, "the last NOTE of the one before");
        }
        feed(many("s1x1", 40, ","));
        due(x.score(199), -4160, "a place above 127");
    }

    @Says(of = "Promise 9", text = "NONE: no such n, it has not so many (the tape stays).")
    void scoreRefuses() {
        due(x.score(1), NONE, "an empty tape");
        feed("s1x1");
        for (int n : new int[] {0, -1, 21, 200, 201, LEAST, MOST}) {
            due(x.score(n), NONE, "n " + n + " of 20");
            due(x.count(4), 20, "the tape stays");
        }
        due(x.count(0), 0, "no SCORE yet");
        due(x.score(4), 1, "its bytes stay");
        feed(new int[220]);
        for (int n : new int[] {0, 201, 220, 221}) {
            due(x.score(n), NONE, "n " + n + " of 220");
            due(x.count(4), 220, "the tape stays");
        }
        due(x.count(0), 1, "the SCORE stays");
    }

    @Says(of = "Promise 10", text = "THE LAW by the first n bytes of the tape (1 to 200; empty then), in place of the one before: how many CLAUSES;")
    void lawReadsTheFirstBytes() {
        score("s1x1");
        x.slate(0, 0, 0, 0, 47);
        feed("d5(1=1);d6(1=1)");
        due(x.law(7), 1, "seven bytes of them");
        due(x.count(4), 0, "empty then");
        due(x.count(3), 1, "CLAUSES");
        due(x.drops(0, 0), 5, "d5");
        due(law("s(1=2);d6(1=1);q1(1=1)"), 3, "another one");
        due(x.count(3), 3, "in place of the one before");
        due(x.drops(0, 0), 6, "in place of the one before");
        due(law("s(1=1)"), 1, "another one");
        due(x.drops(0, 0), 0, "in place of the one before");
        feed("d");
        due(x.law(1), -1001, "one byte is read");
        due(x.count(4), 0, "empty then");
        feed(new int[220]);
        due(x.law(200), -1000, "200 bytes are read");
        due(x.count(4), 0, "empty then, of 220 too");
    }

    @Says(of = "Promise 10", text = "a FAULT: as above (the one before stays);")
    void lawTellsAFault() {
        score("s1x1");
        x.slate(0, 0, 0, 0, 47);
        law("d7(1=1);s(1=2)");
        String[] texts = {"z", "d9(1=1", "d9(1=1);d123456(1=1)", many("d9(1=1)", 14, ";") + ";d", "d9(((((((1=1", "d9(1=1);"};
        int[] want = {-1000, -1006, -2014, -4112, -5008, -1008};
        for (int j = 0; j < texts.length; j++) {
            due(law(texts[j]), want[j], texts[j]);
            due(x.count(4), 0, "the tape is empty then");
            due(x.count(3), 2, "CLAUSES of the one before");
            due(x.drops(0, 0), 7, "DROPS by the one before");
        }
        due(law("d" + many("1", 99, "+") + "(1"), -1200, "the end at 200");
    }

    @Says(of = "Promise 10", text = "NONE: no such n, it has not so many (the tape stays).")
    void lawRefuses() {
        due(x.law(1), NONE, "an empty tape");
        feed("s(1=1)");
        for (int n : new int[] {0, -1, 21, 200, 201, LEAST, MOST}) {
            due(x.law(n), NONE, "n " + n + " of 20");
            due(x.count(4), 20, "the tape stays");
        }
        due(x.count(3), 0, "no LAW yet");
        due(x.law(6), 1, "its bytes stay");
        feed(new int[220]);
        for (int n : new int[] {0, 201, 220, 221}) {
            due(x.law(n), NONE, "n " + n + " of 220");
            due(x.count(4), 220, "the tape stays");
        }
        due(x.count(3), 1, "the LAW stays");
    }

    @Says(of = "Promise 25", text = {"THE SEED (0 to 65535; X, too): true;", "false: no such number."})
    void seedTellsOrRefuses() {
        for (int seed : new int[] {0, 1, 65535}) {
            due(x.seed(seed), true, "seed " + seed);
            due(x.count(5), seed, "X");
        }
        for (int seed : new int[] {-1, 65536, 65537, LEAST, MOST}) {
            due(x.seed(seed), false, "seed " + seed);
            due(x.count(5), 65535, "X");
        }
        due(x.count(10), 0, "nothing is DRAWN by it");
    }

    @Says(of = "Promise 26", text = "DRAWN: RAIN of all ACTS together.")
    void drawAnswersTheRainOfAllActs() {
        for (int n = 0; n < 60; n++) {
            int sum = x.draw();
            due(sum, x.count(10) + x.count(11) + x.count(12) + x.count(13), "draw " + n);
        }
        x.rain(0, 9);
        x.seed(0);
        due(x.draw(), 9 + x.count(11) + x.count(12) + x.count(13), "13849 modulo 10 first");
    }

    @Says(of = "Promise 27", text = "KEPT: how many EVENINGS there were.")
    void keepAnswersEvenings() {
        due(x.keep(), 0, "none");
        due(x.perform(), NONE, "no SCORE");
        due(x.keep(), 0, "none still");
        score("s1x1");
        for (int n = 1; n < 4; n++) {
            x.perform();
            due(x.keep(), n, "behind evening " + n);
            due(x.keep(), n, "once more");
        }
        x.perform();
        x.undo();
        due(x.keep(), 3, "behind undo");
    }

    @Says(of = "Promise 28", text = "UNDONE: true; false: none was KEPT.")
    void undoTellsWhetherSomeWasKept() {
        due(x.undo(), false, "none was KEPT");
        x.rain(0, 5);
        due(x.undo(), false, "none was KEPT");
        due(x.count(10), 5, "nothing is UNDONE");
        x.keep();
        due(x.undo(), true, "nothing has changed");
        x.rain(0, 6);
        due(x.undo(), true, "undo");
        due(x.undo(), true, "undo once more");
        due(x.count(10), 5, "UNDONE");
    }
}
