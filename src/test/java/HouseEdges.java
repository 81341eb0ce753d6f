/** Terms: SEATS, SLATES, ACTS, GUESTS. */
final class HouseEdges extends Stage {
    /** Beyond the rows and places; of the last ones the number would be one of a SEAT, with 32 bits or without. */
    private static final int[][] NO_SEATS = {{8, 0}, {0, 12}, {0, -1}, {LEAST, 0}, {MOST, 0}, {0, LEAST}, {0, MOST},
        {-2, 0}, {-2, 30}, {1, -1}, {8, -1}, {0, 95}, {357913942, 0}};

    @Says(of = "Terms", text = "SEATS: rows 0 to 7 of 12 (0 to 11);")
    void seatsStandInEightRowsOfTwelve() {
        law("d5(1=1)");
        score("s1x1");
        x.guest(0, 1);
        for (int row = 0; row <= 7; row += 7) {
            for (int place = 0; place <= 11; place += 11) {
                due(x.seat(row, place, false, 1), true, "seat " + row + ", " + place);
                due(x.slate(0, row, place, 0, 47), true, "slate " + row + ", " + place);
                due(x.sits(0, 0, row, place), true, "sits " + row + ", " + place);
                due(x.wet(row, place, 0), 4, "wet " + row + ", " + place);
            }
        }
        for (int[] no : NO_SEATS) {
            String where = no[0] + ", " + no[1];
            due(x.seat(no[0], no[1], true, 2), false, "seat " + where);
            due(x.slate(0, no[0], no[1], 0, 47), false, "slate " + where);
            due(x.sits(0, 0, no[0], no[1]), false, "sits " + where);
            due(x.wet(no[0], no[1], 0), NONE, "wet " + where);
        }
        due(x.seat(-1, 0, true, 2), false, "seat -1, 0");
        due(x.slate(0, -1, 0, 0, 47), false, "slate -1, 0");
        due(x.wet(-1, 0, 0), NONE, "wet -1, 0");
        due(x.wet(-1, 12, 0), NONE, "wet -1, 12");
    }

    @Says(of = "Terms", text = "number: 12 times the row and the place in it;")
    void aSeatsNumberIsTwelveTimesItsRowAndItsPlace() {
        for (int s = 0; s < 96; s++) {
            x.seat(s / 12, s % 12, false, 1 + s % 99);
            due(x.count(200 + s), 1 + s % 99, "the BUCKET of SEAT " + s);
        }
        x.guest(0, 1);
        x.sits(0, 0, 7, 11);
        due(x.count(300), 95, "the last SEAT");
        x.sits(0, 0, 0, 0);
        due(x.count(300), 0, "the first SEAT");
    }

    @Says(of = "Terms", text = "each with an UMBRELLA or not (at first),")
    void noSeatHasAnUmbrellaAtFirst() {
        for (int s = 0; s < 96; s++) {
            due(x.count(200 + s) / 1000, 0, "SEAT " + s);
        }
        x.seat(0, 0, true, 0);
        due(x.count(200), 1000, "with one");
        due(x.count(201), 0, "the next SEAT");
        x.seat(0, 0, false, 0);
        due(x.count(200), 0, "without it again");
    }

    @Says(of = "Terms", text = "a BUCKET (holds 0 to 99; 0 at first),")
    void aBucketHoldsUpTo99() {
        law("d50(1=1)");
        score("s1x1,s1x1");
        x.slate(0, 0, 0, 0, 47);
        for (int s = 0; s < 96; s++) {
            due(x.count(200 + s), 0, "at first, SEAT " + s);
        }
        due(x.wet(0, 0, 0), 100, "all of it at first");
        due(x.seat(0, 0, false, 99), true, "99");
        due(x.wet(0, 0, 0), 1, "beyond 99");
        due(x.seat(0, 0, false, 100), false, "100");
        due(x.seat(0, 0, false, -1), false, "-1");
        due(x.seat(0, 0, false, MOST), false, "the most");
        due(x.seat(0, 0, false, LEAST), false, "the least");
        due(x.count(200), 99, "as it was");
        due(x.seat(0, 0, false, 0), true, "0");
        due(x.wet(0, 0, 0), 100, "all of it again");
    }

    @Says(of = "Terms", text = "MOULD (0 to 99; 0 at first).")
    void mouldEndsAt99() {
        law("m9(x=0);m8(1=1);qo(1=1)");
        score("s1x1");
        x.guest(0, 1);
        x.sits(0, 0, 0, 0);
        for (int s = 0; s < 96; s++) {
            due(x.count(100 + s), 0, "at first, SEAT " + s);
        }
        for (int n = 1; n <= 13; n++) {
            x.perform();
            due(x.count(100), Math.min(99, 9 * n), "9 more each evening");
            due(x.count(195), Math.min(99, 8 * n), "8 more each evening");
        }
        due(x.paid(0), 99, "the law's o");
    }

    @Says(of = "Terms", text = "SLATES 0 to 15: a SEAT below it,")
    void slatesAre0To15() {
        law("d5(1=1)");
        score("s1x1");
        due(x.slate(0, 0, 0, 0, 47), true, "SLATE 0");
        due(x.slate(15, 7, 11, 0, 47), true, "SLATE 15");
        due(x.wet(0, 0, 0), 5, "the SEAT below SLATE 0");
        due(x.wet(7, 11, 0), 5, "the SEAT below SLATE 15");
        due(x.house(3, 0), 10, "no other SEAT");
        // by 32 or 47 a shift of a bit would end at SLATE 0 or 15
        for (int k : new int[] {-1, 16, 31, 32, 47, -17, -32, MOST, LEAST}) {
            due(x.slate(k, 0, 0, 0, 0), false, "slate " + k);
            due(x.nail(k, true), false, "nail " + k);
            due(x.drops(0, k), NONE, "drops through " + k);
            due(x.house(1, k), NONE, "the house by " + k);
        }
        due(x.count(6), 0x8001, "told SLATES");
        due(x.count(7), 0, "NAILED ones");
    }

    @Says(of = "Terms", text = "LOW and HIGH (PITCHES 0 to 47, LOW not above HIGH),")
    void lowAndHighAre0To47() {
        int[][] can = {{0, 47}, {0, 0}, {47, 47}, {5, 5}, {5, 6}};
        int[][] cannot = {{-1, 47}, {0, 48}, {-1, -1}, {48, 48}, {6, 5}, {47, 0}, {LEAST, 47}, {0, MOST}, {MOST, LEAST}};
        for (int[] pair : can) {
            due(x.slate(0, 0, 0, pair[0], pair[1]), true, pair[0] + " to " + pair[1]);
        }
        for (int[] pair : cannot) {
            due(x.slate(1, 0, 0, pair[0], pair[1]), false, pair[0] + " to " + pair[1]);
        }
        due(x.count(6), 1, "told SLATES");
    }

    @Says(of = "Terms", text = "NAILED or not.")
    void aSlateIsNailedOrNot() {
        law("d5(1=1)");
        score("s1x1");
        x.slate(0, 0, 0, 0, 47);
        x.slate(15, 0, 0, 0, 47);
        due(x.nail(15, true), true, "nail");
        due(x.count(7), 0x8000, "NAILED ones");
        due(x.wet(0, 0, 0), 5, "through SLATE 0 alone");
        due(x.nail(15, false), true, "not NAILED");
        due(x.wet(0, 0, 0), 10, "through both");
    }

    @Says(of = "Terms", text = "ACTS 0 to 3, each with RAIN (0 to 9; 0 at first).")
    void rainIs0To9InActs0To3() {
        for (int act = 0; act < 4; act++) {
            due(x.count(10 + act), 0, "at first, ACT " + act);
            due(x.rain(act, 9), true, "9");
            due(x.rain(act, 10), false, "10");
            due(x.rain(act, -1), false, "-1");
            due(x.rain(act, MOST), false, "the most");
            due(x.rain(act, LEAST), false, "the least");
            due(x.count(10 + act), 9, "as it was");
            due(x.rain(act, 0), true, "0");
            due(x.count(10 + act), 0, "0");
        }
        for (int act : new int[] {-1, 4, MOST, LEAST}) {
            due(x.rain(act, 1), false, "rain of ACT " + act);
        }
    }

    @Says(of = "Terms", text = "GUESTS 0 to 9: a SEAT in each ACT")
    void guestsAre0To9WithASeatInEachAct() {
        for (int g = 0; g < 10; g += 9) {
            due(x.guest(g, 1), true, "GUEST " + g);
            for (int act = 0; act < 4; act++) {
                due(x.sits(g, act, act, g), true, "sits");
            }
            for (int act = 0; act < 4; act++) {
                due(x.count(300 + 10 * act + g), 12 * act + g, "GUEST " + g + " in ACT " + act);
            }
        }
        for (int g : new int[] {-1, 10, 31, 32, 41, MOST, LEAST}) {
            due(x.guest(g, 1), false, "guest " + g);
            due(x.sits(g, 0, 0, 5), false, "sits " + g);
            due(x.guestWet(g, 0), NONE, "guestWet " + g);
            due(x.leftOut(g, 0, NONE), NONE, "leftOut " + g);
            due(x.transposed(g, 0), -100, "transposed " + g);
        }
        due(x.count(8), 0x201, "told GUESTS");
        for (int act : new int[] {-1, 4, MOST, LEAST}) {
            due(x.sits(0, act, 0, 5), false, "sits in ACT " + act);
        }
    }

    @Says(of = "Terms", text = "(no two on one in an ACT;")
    void noTwoGuestsSitOnOneSeatInAnAct() {
        x.guest(0, 1);
        x.guest(9, 1);
        due(x.sits(9, 1, 3, 4), true, "the first one");
        due(x.sits(0, 1, 3, 4), false, "the second one");
        due(x.sits(0, 0, 3, 4), true, "in another ACT");
        due(x.sits(0, 1, 3, 5), true, "beside it");
        due(x.sits(9, 1, 3, 5), false, "the other way round");
        due(x.count(319), 40, "it sits where it sat");
        due(x.sits(0, 1, 3, 6), true, "away");
        due(x.sits(9, 1, 3, 5), true, "the SEAT that was left");
    }

    @Says(of = "Terms", text = "255: they are out),")
    void guestsThatAreOutAreOn255() {
        law("d5(1=1);q7(1=1)");
        score("s1x1");
        for (int k = 0; k < 8; k++) {
            x.slate(k, k, 11, 0, 47);
        }
        x.guest(0, 1);
        x.guest(1, 1);
        for (int act = 0; act < 4; act++) {
            due(x.count(300 + 10 * act), 255, "out at first");
        }
        due(x.sits(0, 0, 7, 11), true, "in");
        due(x.sits(0, 0, NONE, 0), true, "out");
        due(x.sits(1, 0, NONE, 0), true, "out, too: that is no SEAT");
        due(x.count(300), 255, "out");
        due(x.guestWet(0, 4), 0, "not WET");
        due(x.paid(4), 0, "nothing is paid");
    }

    @Says(of = "Terms", text = "a RANK (1 to 99).")
    void aRankIs1To99() {
        law("d1(1=1)");
        score("s1x1");
        x.slate(0, 0, 0, 0, 47);
        int[] can = {1, 99};
        for (int rank : can) {
            due(x.guest(0, rank), true, "RANK " + rank);
            x.sits(0, 0, 0, 0);
            due(x.sponge(1, 1), rank, "RANK times WET");
        }
        for (int rank : new int[] {0, 100, -1, MOST, LEAST}) {
            due(x.guest(0, rank), false, "RANK " + rank);
        }
        due(x.sponge(1, 1), 99, "the RANK stays");
    }
}
