/** Terms: SEATED, TRANSPOSED, LEFT OUT, NAILS, SUNG, A SPONGE, PAID. */
final class ChoiceEdges extends Stage {
    // ---- SEATED

    /** SEATS 0 to 9 are WET by 0, 10, 20 .. 90 in ACT 0; ten GUESTS of RANK 1, 2 .. 10, all out. */
    private void openARow() {
        law("d10*x(1=1)");
        score("s1x1");
        for (int k = 0; k < 10; k++) {
            x.slate(k, 0, k, 0, 47);
            x.guest(k, k + 1);
        }
    }

    @Says(of = "Terms", text = "SEATED for an ACT: told GUESTS (1 to 8)")
    void oneToEightGuestsAreSeated() {
        openARow();
        due(seated(0, 1, 10, 3), 30, "one");
        due(seated(0, 0xff, 10, 0, 1, 2, 3, 4, 5, 6, 7), 840, "eight");
        due(seated(0, 0xff, 7, 0, 1, 2, 3, 4, 5, 6, 7), 0, "the highest of eight");
        due(seated(0, 0xff, 0, 0, 1, 2, 3, 4, 5, 6, 7), 7, "the lowest of eight");
        due(seated(0, 0x3fc, 10, 0, 1, 2, 3, 4, 5, 6, 7), 840 + 2 * 280, "the last eight");
        due(seated(0, 0x1ff, 10, 0, 1, 2, 3, 4, 5, 6, 7, 8), NONE, "nine");
        due(x.seated(0, 0x3ff, 10, 10), NONE, "ten");
        due(x.seated(0, 0, 0, 10), NONE, "none");
        due(x.count(4), 20, "the tape stays");
        emptyTape();
        due(seated(0, 3, 10, 1, 3), 2 * 10 + 30, "two behind eight");
        x = new RainOpera();
        x.guest(0, 1);
        due(seated(0, 3, 10, 0, 1), NONE, "one that is not told");
    }

    @Says(of = "Terms", text = "on told SEATS (as many,")
    void asManySeatsAsGuests() {
        openARow();
        feed(1, 2, 3, 4);
        due(x.seated(0, 7, 2, 10), NONE, "one less");
        due(x.seated(0, 7, 4, 10), NONE, "one more");
        due(x.seated(0, 7, 0, 10), NONE, "none");
        due(x.seated(0, 7, LEAST, 10), NONE, "the least");
        due(x.count(4), 20, "the tape stays");
        due(x.seated(0, 7, 3, 10), 3 * 10 + 2 * 20 + 30, "as many");
    }

    @Says(of = "Terms", text = "without an other GUEST in that ACT), one each:")
    void seatsWithoutAnotherGuest() {
        openARow();
        x.sits(9, 0, 0, 3);
        x.sits(1, 0, 0, 2);
        x.sits(8, 1, 0, 1);
        due(seated(0, 3, 11, 1, 3), -2, "GUEST 9 is there");
        due(seated(0, 3, 11, 3, 1), -2, "GUEST 9 is there");
        due(x.count(300), 255, "nothing is done");
        due(seated(0, 3, 10, 1, 2), 2 * 10 + 20, "GUEST 1 is one of them; GUEST 8 is there in another ACT");
        due(seated(1, 3, 10, 3, 2), 0, "GUEST 9 is not there in ACT 1");
        due(seated(1, 3, 10, 1, 2), -2, "GUEST 8 is there in ACT 1");
        due(seated(0, 0x201, 11, 3, 1), 10 * 10 + 30, "GUEST 9 is one of them");
        due(x.count(300), 3, "one each");
        due(x.count(309), 1, "one each");
        due(seated(0, 3, 10, 4, 4), -2, "one for both");
    }

    @Says(of = "Terms", text = "RANK times WET of all together least;")
    void rankTimesWetIsLeast() {
        openARow();
        due(seated(0, 7, 10, 5, 1, 3), 3 * 10 + 2 * 30 + 50, "together");
        due(seated(0, 7, 0, 5, 1, 3), 5, "RANK 1");
        due(seated(0, 7, 1, 5, 1, 3), 3, "RANK 2");
        due(seated(0, 7, 2, 5, 1, 3), 1, "RANK 3");
        x.seat(0, 5, false, 45);
        due(seated(0, 7, 2, 5, 1, 3), 5, "with a BUCKET");
        due(seated(0, 7, 10, 5, 1, 3), 3 * 5 + 2 * 10 + 30, "with a BUCKET");
    }

    @Says(of = "Terms", text = "of like ones the least row of SEATS by GUESTS.")
    void ofLikeSeatingsTheLeastRow() {
        law("d10(x>0)");
        score("s1x1");
        x.slate(0, 0, 3, 0, 47);
        x.slate(1, 0, 7, 0, 47);
        x.guest(2, 5);
        x.guest(5, 5);
        x.guest(7, 1);
        // SEAT 9 is dry: one of RANK 5 gets it
        int[] want = {3, 9, 7};
        int[] who = {2, 5, 7};
        for (int j = 0; j < 3; j++) {
            due(seated(0, 0xa4, who[j], 9, 7, 3), want[j], "GUEST " + who[j]);
            due(seated(0, 0xa4, who[j], 3, 7, 9), want[j], "GUEST " + who[j] + ", told the other way round");
            due(seated(1, 0xa4, who[j], 9, 7, 3), new int[] {3, 7, 9}[j], "GUEST " + who[j] + ", all dry");
        }
        due(seated(0, 0xa4, 11, 9, 7, 3), 60, "done");
        due(x.count(302), 3, "done just so");
        due(x.count(305), 9, "done just so");
        due(x.count(307), 7, "done just so");
    }

    // ---- TRANSPOSED

    private void openForOne(String score, String law) {
        x = new RainOpera();
        score(score);
        law(law);
        x.guest(0, 1);
        for (int act = 0; act < 4; act++) {
            x.sits(0, act, 0, 0);
        }
    }

    private void shifts(int by, int wet, String what) {
        due(x.transposed(0, 0), by, what);
        due(x.transposed(0, 1), wet, what + ": how WET");
    }

    @Says(of = "Terms", text = "TRANSPOSED: all NOTES by so many PITCHES (-12 to 12;")
    void transposedByTwelveAtMost() {
        openForOne("s24x5", "dl(1=1)");
        x.slate(0, 0, 0, 13, 35);
        shifts(12, 0, "12");
        x.slate(0, 0, 0, 13, 36);
        shifts(-12, 0, "-12");
        x.slate(0, 0, 0, 12, 36);
        shifts(0, 5, "13 and -13 are too far");
        openForOne("s24x5,a24x5/t24x5", "dl(1=1)");
        x.slate(0, 0, 0, 20, 28);
        shifts(5, 0, "all NOTES");
    }

    @Says(of = "Terms", text = "within 0 to 47 all of them):")
    void transposedWithin0To47() {
        openForOne("s0x5", "d9(p<12);d8(1=1)");
        x.slate(0, 0, 0, 0, 47);
        shifts(12, 8, "up from 0");
        openForOne("s47x5", "d9(p>35);d8(1=1)");
        x.slate(0, 0, 0, 0, 47);
        shifts(-12, 8, "down from 47");
        openForOne("s5x1,s46x1", "dp(p<20)");
        x.slate(0, 0, 0, 0, 47);
        shifts(-5, 0, "down to 0");
        openForOne("s5x1,s46x1", "d40-p(p<20)");
        x.slate(0, 0, 0, 0, 47);
        shifts(1, 34, "up to 47");
        openForOne("s0x1,s47x1", "d40-p(p<20)");
        x.slate(0, 0, 0, 0, 47);
        shifts(0, 40, "not at all");
    }

    @Says(of = "Terms", text = "that by which a GUEST is least WET; of like ones the least without sign, then the one above.")
    void ofLikeShiftsTheLeast() {
        openForOne("s24x5", "dl(1=1)");
        x.slate(0, 0, 0, 23, 26);
        shifts(-2, 0, "-2 is less than 3");
        x.slate(0, 0, 0, 22, 25);
        shifts(2, 0, "2 is less than -3");
        x.slate(0, 0, 0, 22, 26);
        shifts(3, 0, "3 is above -3");
        x.slate(0, 0, 0, 0, 23);
        shifts(0, 0, "it is dry");
        openForOne("s24x5", "d9(p=24);d5(p<30&p>18);d4(1=1)");
        x.slate(0, 0, 0, 0, 47);
        shifts(6, 4, "never dry");
        openForOne("s24x5/s24x5", "d9(p=24);d5(a=0);d3(1=1)");
        x.slate(0, 0, 0, 0, 47);
        shifts(1, 8, "in all ACTS together");
        x.slate(0, 0, 1, 0, 47);
        shifts(0, 0, "another SEAT is WET");
    }

    @Says(of = "Terms", text = "that by which a GUEST is least WET;")
    void whatIsTransposedIsAWholeEvening() {
        openForOne("s24x5", "d9(p=24);d5(1=1)");
        x.slate(0, 0, 0, 0, 47);
        x.seat(0, 0, false, 5);
        shifts(1, 0, "the BUCKET holds 5");
        openForOne("s24x5", "d9(p=24);d5(1=1)");
        x.slate(0, 0, 1, 0, 47);
        x.seat(0, 1, true, 0);
        shifts(1, 1, "past an UMBRELLA");
        x.sits(0, 1, NONE, 0);
        shifts(1, 1, "past an UMBRELLA, in this ACT alone");
        x.slate(0, 0, 2, 0, 47);
        x.seat(0, 2, true, 0);
        shifts(0, 0, "two SEATS away from an UMBRELLA");
        x.slate(0, 1, 0, 0, 47);
        x.seat(1, 0, true, 0);
        x.sits(0, 0, 0, 11);
        shifts(0, 0, "in the row ahead of an UMBRELLA");
        openForOne("s24x5", "d9(p=24);d5(1=1);s(1=1)");
        x.slate(0, 0, 1, 0, 47);
        x.seat(0, 1, true, 0);
        x.sits(0, 0, NONE, 0);
        shifts(1, 1, "SNOW past an UMBRELLA, in the next ACT alone");
        openForOne("s24x5", "d5(1=1);s(p=24)");
        x.slate(0, 0, 0, 0, 47);
        x.sits(0, 0, 0, 9);
        shifts(1, 0, "SNOW falls in the next ACT, on the SEAT of that ACT");
        x.sits(0, 1, NONE, 0);
        shifts(0, 0, "SNOW falls in the next ACT, when it is out");
        openForOne("s24x5", "d5(1=1);s(p=24)");
        x.slate(0, 0, 0, 0, 47);
        x.seat(0, 0, false, 1);
        shifts(0, 4, "SNOW, or not");
        openForOne("s24x1/s24x1/s24x1/s24x5", "d5(a=3);s(p>24)");
        x.slate(0, 0, 0, 0, 47);
        shifts(1, 0, "SNOW of ACT 3 falls never");
        openForOne("s24x1/s24x1/s24x5", "d5(a=2);s(p>22)");
        x.slate(0, 0, 0, 0, 47);
        x.sits(0, 2, NONE, 0);
        shifts(-2, 0, "SNOW of ACT 2 falls in ACT 3");
        x = new RainOpera();
        score("s24x5/s24x5/s24x5/s24x5");
        law("d5(p<26&a=3);d1(1=1)");
        x.slate(0, 7, 11, 0, 47);
        x.guest(9, 1);
        x.sits(9, 3, 7, 11);
        due(x.transposed(9, 0), 2, "the last GUEST on the last SEAT in the last ACT");
        due(x.transposed(9, 1), 1, "the last GUEST on the last SEAT in the last ACT");
        score("s24x5/s24x5/s24x5");
        law("d5(a=2);s(p<26)");
        due(x.transposed(9, 0), 2, "SNOW on the last GUEST");
        due(x.transposed(9, 1), 0, "SNOW on the last GUEST");
    }

    // ---- LEFT OUT

    private void leavesOut(int act, int... notes) {
        due(x.leftOut(0, act, NONE), notes.length, "how many of ACT " + act);
        for (int j = 0; j < notes.length; j++) {
            due(x.leftOut(0, act, j), notes[j], "place " + j + " in ACT " + act);
        }
        due(x.leftOut(0, act, notes.length), -2, "no such place in ACT " + act);
    }

    @Says(of = "Terms", text = "LEFT OUT of an ACT: fewest of its NOTES without which a GUEST is not WET in it")
    void fewestNotesAreLeftOut() {
        openForOne("s1x2,s1x3,s1x4,s2x7,s1x9,s1x1/s1x5", "dl(1=1)");
        x.slate(0, 0, 0, 1, 1);
        leavesOut(0, 0, 1, 2, 4, 5);
        x.seat(0, 0, false, 9);
        leavesOut(0, 0, 4);
        x.seat(0, 0, false, 10);
        leavesOut(0, 4);
        x.seat(0, 0, false, 18);
        leavesOut(0, 0);
        x.seat(0, 0, false, 19);
        leavesOut(0);
        x.seat(0, 0, false, 4);
        leavesOut(1, 6);
        x.seat(0, 0, true, 0);
        x.slate(1, 0, 1, 2, 2);
        x.sits(0, 0, 0, 1);
        due(x.guestWet(0, 0), 3 + 1 + 1 + 7, "past an UMBRELLA, and without one");
        leavesOut(0, 1, 2, 3, 4);
        x.seat(0, 1, false, 4);
        leavesOut(0, 1, 3);
        x = new RainOpera();
        score("s1x1/s1x1/s1x1/s1x5,s1x4");
        law("dl(1=1)");
        x.slate(0, 7, 11, 0, 47);
        x.guest(9, 1);
        x.sits(9, 3, 7, 11);
        due(x.leftOut(9, 3, NONE), 2, "the last GUEST on the last SEAT in the last ACT");
        due(x.leftOut(9, 3, 1), 4, "the last GUEST on the last SEAT in the last ACT");
        openForOne("s1x2,s1x3,s1x9", "dl(1=1)");
        x.slate(0, 0, 0, 0, 47);
        due(x.leftOut(0, 0, NONE), 3, "a first SCORE");
        score("s1x2,s1x3,s1x9");
        due(x.leftOut(0, 0, NONE), 3, "a second SCORE");
        score("s1x2,s1x3");
        leavesOut(0, 0, 1);
        openForOne(many("s1x1", 32, ","), "d1(1=1)");
        x.slate(0, 0, 0, 0, 47);
        due(x.leftOut(0, 0, NONE), 32, "all");
        due(x.leftOut(0, 0, 31), 31, "the last");
        due(x.leftOut(0, 0, 32), -2, "no such place");
    }

    @Says(of = "Terms", text = "(SNOW of the ACT ahead falls all the same);")
    void snowFallsAllTheSame() {
        openForOne("s1x4,a1x9/s1x5,a1x8,s1x6", "dl(1=1);s(v=1)");
        x.slate(0, 0, 0, 0, 47);
        leavesOut(0, 0);
        due(x.leftOut(0, 1, NONE), -2, "9 by SNOW");
        x.seat(0, 0, false, 8);
        due(x.leftOut(0, 1, NONE), -2, "9 by SNOW, 8 are held");
        due(x.leftOut(0, 1, 0), -2, "no such place");
        x.seat(0, 0, false, 9);
        leavesOut(1, 2, 4);
        x.seat(0, 0, false, 14);
        leavesOut(1, 4);
        x.seat(0, 0, false, 20);
        leavesOut(1);
        x.seat(0, 0, false, 0);
        due(x.leftOut(0, 2, NONE), -2, "8 by SNOW, in an ACT that THE SCORE has not");
        leavesOut(3);
    }

    @Says(of = "Terms", text = "of like ones the least row of NOTES.")
    void ofLikeNotesTheLeastRow() {
        openForOne("s1x3,s1x5,s1x4,s1x4", "dl(1=1)");
        x.slate(0, 0, 0, 0, 47);
        x.seat(0, 0, false, 8);
        leavesOut(0, 0, 1);
        x.seat(0, 0, false, 7);
        leavesOut(0, 1, 2);
        x.seat(0, 0, false, 12);
        leavesOut(0, 1);
        x.seat(0, 0, false, 13);
        leavesOut(0, 0);
        x.seat(0, 0, false, 3);
        leavesOut(0, 1, 2, 3);
        openForOne("s1x9,s1x1,s1x5,s1x5", "dl(1=1)");
        x.slate(0, 0, 0, 0, 47);
        x.seat(0, 0, false, 1);
        leavesOut(0, 0, 2, 3);
    }

    // ---- NAILS

    private void nails(int guests, int bits, String what) {
        due(x.nails(guests, 0), Integer.bitCount(bits), what + ": how many");
        due(x.nails(guests, 1), bits, what + ": which");
    }

    @Says(of = "Terms", text = "NAILS: the fewest SLATES more that are NAILED, so that told GUESTS are not WET;")
    void fewestSlatesMore() {
        openForOne("s1x1", "dk+1(1=1)");
        x.guest(1, 1);
        x.sits(1, 1, 0, 5);
        for (int k = 0; k < 5; k++) {
            x.slate(k, 0, 0, 0, 47);
        }
        // 1 + 2 + 3 + 4 + 5
        nails(1, 31, "all");
        nails(2, 0, "GUEST 1 is dry");
        nails(3, 31, "both");
        x.seat(0, 0, false, 10);
        nails(1, 16, "5 less");
        x.seat(0, 0, false, 6);
        nails(1, 24, "9 less");
        x.nail(4, true);
        nails(1, 8, "4 less, one is NAILED");
        x.nail(3, true);
        nails(1, 0, "it is dry");
        openForOne("s1x1", "d1(1=1)");
        for (int k = 0; k < 16; k++) {
            x.slate(k, 0, 0, 0, 47);
        }
        nails(1, 0xffff, "all 16");
        openForOne("s1x1", "d9(1=1);s(1=1)");
        x.slate(0, 0, 0, 0, 47);
        nails(1, 1, "WET by SNOW");
        x.seat(0, 0, false, 8);
        nails(1, 1, "WET by one DROP");
        x.seat(0, 0, false, 9);
        nails(1, 0, "not WET");
        openForOne("s1x1", "d4(1=1)");
        x.slate(3, 0, 1, 0, 47);
        x.slate(4, 0, 2, 0, 47);
        x.seat(0, 1, true, 0);
        x.seat(0, 2, true, 0);
        nails(1, 8, "past an UMBRELLA; the other is too far away");
    }

    @Says(of = "Terms", text = "so that told GUESTS are not WET;")
    void tenGuestsMayBeWetInFourActs() {
        law("d1(1=1)");
        score("s1x1/s1x1/s1x1/s1x1");
        for (int g = 0; g < 10; g++) {
            x.slate(g, 7, g, 0, 47);
            x.guest(g, 1);
            for (int act = 0; act < 4; act++) {
                x.sits(g, act, 7, act < 3 ? g : g + 1);
            }
        }
        x.slate(15, 7, 10, 0, 47);
        nails(0x3ff, 0x83ff, "all");
        nails(0x200, 0x8200, "the last GUEST, on two SEATS");
        nails(0x210, 0x8230, "two GUESTS, on four SEATS");
        x.sits(9, 3, NONE, 0);
        nails(0x200, 0x200, "the last GUEST, on one SEAT");
        for (int act = 0; act < 3; act++) {
            x.sits(9, act, NONE, 0);
        }
        nails(0x200, 0, "the last GUEST, out");
    }

    @Says(of = "Terms", text = "of like ones the least bits.")
    void ofLikeNailsTheLeastBits() {
        openForOne("s1x1/s1x1/s1x1/s1x1", "d5(a=0&k%2=1);d5(a=1&k>1);d5(a=2&k<2);d5(a=3&k%2=0)");
        for (int k = 0; k < 4; k++) {
            x.slate(k, 0, 0, 0, 47);
        }
        x.seat(0, 0, false, 5);
        nails(1, 6, "1 and 2, or 0 and 3");
        openForOne("s1x1", "d5(1=1)");
        for (int k = 3; k < 16; k++) {
            x.slate(k, 0, 0, 0, 47);
        }
        x.seat(0, 0, false, 60);
        nails(1, 8, "any one");
        x.seat(0, 0, false, 55);
        nails(1, 24, "any two");
    }

    // ---- SUNG

    private void sings(int act, int sets, int first, int common, int... pairs) {
        due(sung(act, 0, pairs), sets, "how many sets");
        due(sung(act, 1, pairs), first, "the first");
        due(sung(act, 2, pairs), common, "BARS in all");
    }

    @Says(of = "Terms", text = "SUNG: told is how WET SEATS were in an ACT of THE SCORE, no other ACT being sung:")
    void noOtherActIsSung() {
        openForOne("s1x9/s1x4|s1x3", "dl(1=1);s(a=0)");
        x.slate(0, 0, 0, 0, 47);
        due(x.wet(0, 0, 1), 16, "with SNOW of ACT 0");
        sings(1, 1, 3, 3, 0, 7);
        sings(1, 0, -2, -2, 0, 16);
        sings(0, 2, 0, 0, 0, 0);
        sings(0, 0, -2, -2, 0, 9);
        feed(0, 0);
        due(x.sung(2, 1, 0), NONE, "an ACT that THE SCORE has not");
    }

    @Says(of = "Terms", text = "sets of its BARS that were sung (the others not) by which all told SEATS are WET just so: how many,")
    void setsOfBarsByWhichSeatsAreJustSoWet() {
        openForOne("s1x1|s1x2|s1x3,s2x9|s1x4", "dl(1=1)");
        x.slate(0, 0, 0, 1, 1);
        x.slate(1, 0, 1, 2, 2);
        sings(0, 1, 0, 0, 0, 0);
        sings(0, 8, 0, 0, 1, 0);
        sings(0, 8, 4, 4, 1, 9);
        sings(0, 2, 6, 0, 0, 5);
        sings(0, 1, 6, 6, 0, 5, 1, 9);
        sings(0, 1, 9, 9, 0, 5, 1, 0);
        sings(0, 1, 15, 15, 0, 10);
        sings(0, 0, -2, -2, 0, 11);
        sings(0, 0, -2, -2, 0, 10, 1, 0);
        sings(0, 8, 4, 4, 1, 9, 2, 0);
        sings(0, 1, 5, 5, 1, 9, 0, 4, 2, 0, 0, 4);
        x.seat(0, 0, false, 3);
        sings(0, 5, 0, 0, 0, 0);
        sings(0, 2, 5, 0, 0, 1);
        openForOne("s2x1|s1x5", "dl(1=1)");
        x.slate(0, 0, 0, 1, 1);
        sings(0, 4, 0, 0, 5, 0, 6, 0);
        sings(0, 2, 0, 0, 5, 0, 0, 0);
        sings(0, 2, 2, 2, 5, 0, 0, 5);
        openForOne("s1x9|s1x3|s1x8", "dl(1=1)");
        x.slate(0, 0, 1, 0, 47);
        x.seat(0, 1, true, 0);
        sings(0, 2, 1, 0, 0, 3, 2, 3, 1, 0);
        sings(0, 1, 3, 3, 0, 4, 2, 4);
        sings(0, 1, 4, 4, 2, 2);
    }

    @Says(of = "Terms", text = "the first (least bits, the ACT's first BAR lowest), BARS in all.")
    void theFirstSetHasTheLeastBits() {
        openForOne("s1x1|s1x1/s1x1|s1x2|s1x3|s1x4", "dl(1=1)");
        x.slate(0, 0, 0, 0, 47);
        sings(1, 2, 6, 0, 0, 5);
        sings(1, 2, 7, 2, 0, 6);
        sings(1, 2, 11, 8, 0, 7);
        sings(1, 1, 1, 1, 0, 1);
        sings(0, 2, 1, 0, 0, 1);
        openForOne(many("s1x1", 12, "|"), "d1(1=1)");
        x.slate(0, 0, 0, 0, 47);
        sings(0, 12, 1, 0, 0, 1);
        sings(0, 12, 0x7ff, 0, 0, 11);
        sings(0, 1, 0xfff, 0xfff, 0, 12);
        sings(0, 4096, 0, 0, 1, 0);
    }

    // ---- A SPONGE

    private void sponges(int n, int seat, int less, String what) {
        due(x.sponge(n, 0), seat, what + ": the SEAT");
        due(x.sponge(n, 1), less, what + ": how much less");
    }

    @Says(of = "Terms", text = "A SPONGE that holds n more on one SEAT in all ACTS (like a larger BUCKET, above 99 too):")
    void aSpongeIsLikeALargerBucket() {
        openForOne("s1x9,s1x9/s1x9/s1x2", "dl*11(1=1)");
        x.slate(0, 0, 0, 0, 47);
        // WET by 198, 99, 22
        sponges(1, 0, 3, "in three ACTS");
        sponges(22, 0, 66, "all of ACT 2");
        sponges(23, 0, 68, "all of ACT 2 and no more");
        sponges(99, 0, 99 + 99 + 22, "99");
        x.seat(0, 0, false, 99);
        sponges(98, 0, 98, "197 in all");
        sponges(99, 0, 99, "198 in all");
        x.seat(0, 0, true, 99);
        sponges(99, 0, 0, "under an UMBRELLA nothing falls");
    }

    @Says(of = "Terms", text = "the SEAT by which WET times RANK of all GUESTS is least; of like ones the lowest; how much that is less.")
    void whereASpongeIsWorthMost() {
        law("dl(1=1)");
        score("s1x5,a2x6/a2x6");
        sponges(9, 0, 0, "nobody is WET: the lowest");
        x.slate(0, 0, 3, 1, 1);
        x.slate(1, 7, 11, 2, 2);
        sponges(9, 0, 0, "SEATS without a GUEST");
        x.guest(0, 12);
        x.guest(1, 5);
        x.sits(0, 0, 0, 3);
        x.sits(1, 0, 7, 11);
        sponges(9, 3, 60, "12 times 5, or 5 times 6");
        x.sits(1, 1, 7, 11);
        sponges(9, 3, 60, "12 times 5, or 5 times 6 and 6: the lowest");
        x.guest(2, 1);
        x.guest(1, 11);
        x.sits(1, 0, 7, 11);
        x.sits(2, 1, 7, 11);
        sponges(9, 95, 72, "two GUESTS on one SEAT, in two ACTS");
        sponges(1, 3, 12, "12, or 11 and 1: the lowest");
    }

    // ---- PAID

    @Says(of = "Terms", text = "PAID: for an ACT q of the SEATS of all GUESTS;")
    void paidIsForTheSeatsOfAllGuests() {
        law("q1+x(1=1)");
        due(x.paid(0), 0, "no GUESTS");
        for (int g = 0; g < 10; g++) {
            x.guest(g, 99);
            x.sits(g, 2, 4, g);
        }
        due(x.paid(2), 55, "ten of them");
        due(x.paid(1), 0, "all are out");
        x.sits(9, 2, NONE, 0);
        due(x.paid(2), 45, "one is out");
        due(x.paid(4), 45, "for all ACTS");
    }

    @Says(of = "Terms", text = "of ACTS in which one is WET nothing is paid for its SEAT.")
    void nothingIsPaidForAWetSeat() {
        law("dl(1=1);q7(1=1)");
        score("s1x2/s1x1");
        x.slate(0, 0, 0, 0, 47);
        x.seat(0, 0, false, 1);
        x.guest(0, 1);
        x.guest(1, 1);
        for (int act = 0; act < 4; act++) {
            x.sits(0, act, 0, 0);
            x.sits(1, act, 0, 1);
        }
        due(x.paid(0), 7, "one is WET by one DROP");
        due(x.paid(1), 14, "in ACT 1 the BUCKET holds it");
        due(x.paid(4), 7 + 14 + 14 + 14, "in all");
        x.seat(0, 0, false, 2);
        due(x.paid(0), 14, "both are dry");
    }
}
