import java.util.ArrayList;
import java.util.List;
import java.util.function.IntSupplier;

/** Terms: AN EVENING, and what WET is. */
final class EveningEdges extends Stage {
    @Says(of = "Terms", text = "AN EVENING: ACTS 0 to 3, whether THE SCORE has them or not, one behind the other;")
    void fourActsWhateverTheScoreHas() {
        law("d5(1=1);s(1=1);q7(1=1)");
        x.slate(0, 0, 0, 0, 47);
        x.guest(0, 1);
        x.sits(0, 3, 0, 1);
        String[] scores = {"s1x1", "s1x1/s1x1", "s1x1/s1x1/s1x1"};
        for (int last = 0; last < scores.length; last++) {
            score(scores[last]);
            for (int act = 0; act < 4; act++) {
                due(x.wet(0, 0, act), act >= 1 && act <= last + 1 ? 5 : 0, scores[last] + ", ACT " + act);
            }
            due(x.paid(3), 7, "ACT 3 is paid for, too");
        }
    }

    @Says(of = "Terms", text = "BUCKETS are empty ahead of each.")
    void bucketsAreEmptyAheadOfEachAct() {
        law("dl(1=1)");
        score("s1x7,s1x1/s1x5/s1x4,s1x2/s1x9");
        x.slate(0, 0, 0, 0, 47);
        x.seat(0, 0, false, 5);
        int[] want = {3, 0, 1, 4, 8};
        for (int act = 0; act <= 4; act++) {
            due(x.wet(0, 0, act), want[act], "ACT " + act);
        }
    }

    /** Through two SLATES, told the wrong way round, above one SEAT with a BUCKET of 8. */
    private void openTwice() {
        x.slate(1, 0, 0, 0, 47);
        x.slate(0, 0, 0, 0, 47);
        x.seat(0, 0, false, 8);
    }

    @Says(of = "Terms", text = "First what was SNOW in the ACT ahead falls, as it came;")
    void snowFallsFirstAsItCame() {
        law("dl*[k+1](1=1);s(a=0)");
        score("s1x3,s1x4/s1x5");
        openTwice();
        // 3, 6, 4, 8 as SNOW, then 5, 10
        due(x.wet(0, 0, 0), 0, "not in its ACT");
        due(x.wet(0, 0, 1), 28, "36 less 8");
        due(x.house(0, 0), 1, "by NOTE 0");
        due(x.house(0, 1), 12, "by NOTE 1");
        due(x.house(0, 2), 15, "by NOTE 2");
        due(x.house(1, 0), 9, "by SLATE 0");
        due(x.house(1, 1), 19, "by SLATE 1");
    }

    @Says(of = "Terms", text = "then NOTE by NOTE, through each SLATE (by numbers)")
    void noteByNoteThroughEachSlate() {
        law("dl*[k+1](1=1)");
        score("s1x3,s1x4");
        openTwice();
        // 3, 6, 4, 8
        due(x.house(0, 0), 1, "by NOTE 0");
        due(x.house(0, 1), 12, "by NOTE 1");
        due(x.house(1, 0), 4, "by SLATE 0");
        due(x.house(1, 1), 9, "by SLATE 1");
    }

    @Says(of = "Terms", text = "that is not NAILED and whose LOW to HIGH has the PITCH, d DROPS come:")
    void openIsWhatHasThePitchAndIsNotNailed() {
        law("d7(1=1)");
        score("s9x1,s10x1,s20x1,s21x1,s0x1,s47x1");
        x.slate(0, 0, 0, 10, 20);
        x.slate(1, 0, 0, 0, 0);
        x.slate(2, 0, 0, 47, 47);
        int[][] want = {{0, 7, 7, 0, 0, 0}, {0, 0, 0, 0, 7, 0}, {0, 0, 0, 0, 0, 7}};
        for (int k = 0; k < 3; k++) {
            for (int i = 0; i < 6; i++) {
                due(x.drops(i, k), want[k][i], "NOTE " + i + " through SLATE " + k);
            }
        }
        x.nail(0, true);
        for (int i = 0; i < 6; i++) {
            due(x.drops(i, 0), 0, "NOTE " + i + " through a NAILED one");
        }
        due(x.wet(0, 0, 4), 14, "through the others");
    }

    @Says(of = "Terms", text = "SNOW falls in the next ACT (of ACT 3 never), else they fall now.")
    void snowOfTheLastActFallsNever() {
        law("dl(1=1);s(v=0)");
        score("s1x1,a1x2/s1x3,a1x4/s1x5,a1x6/s1x7,a1x8");
        x.slate(0, 0, 0, 0, 47);
        int[] want = {2, 1 + 4, 3 + 6, 5 + 8};
        for (int act = 0; act < 4; act++) {
            due(x.wet(0, 0, act), want[act], "ACT " + act);
        }
        due(x.drops(6, 0), 7, "it comes, in ACT 3");
        due(x.house(0, 6), 0, "it falls never");
        x.perform();
        due(x.wet(0, 0, 0), 2, "not in the next evening either");
        due(x.soFar(46), 0, "nothing is LED to it");
    }

    @Says(of = "Terms", text = "On a SEAT with an UMBRELLA a third of them (rounded down) falls past it")
    void aThirdRoundedDown() {
        score("s1x1");
        x.slate(0, 0, 5, 0, 47);
        x.seat(0, 5, true, 0);
        int[][] pairs = {{0, 0}, {1, 0}, {2, 0}, {3, 1}, {5, 1}, {6, 2}, {98, 32}, {99, 33}};
        for (int[] pair : pairs) {
            law("d" + pair[0] + "(1=1)");
            due(x.wet(0, 4, 0), pair[1], "of " + pair[0] + " to the left");
            due(x.wet(0, 6, 0), pair[1], "of " + pair[0] + " to the right");
            due(x.wet(0, 5, 0), 0, "under it");
        }
        law("d2(1=1)");
        score("s1x1,s1x1,s1x1");
        x.slate(1, 0, 5, 0, 47);
        due(x.wet(0, 4, 0), 0, "of each NOTE and SLATE by itself");
    }

    @Says(of = "Terms", text = "on each neighbour in its row that there is,")
    void neighboursAreInTheRow() {
        for (int row : new int[] {0, 3, 7}) {
            for (int place : new int[] {0, 1, 10, 11}) {
                x = new RainOpera();
                law("d9(1=1)");
                score("s1x1");
                x.slate(0, row, place, 0, 47);
                x.seat(row, place, true, 0);
                String where = "past row " + row + ", place " + place;
                due(x.wet(row, place - 1, 0), place == 0 ? NONE : 3, where + ": to the left");
                due(x.wet(row, place + 1, 0), place == 11 ? NONE : 3, where + ": to the right");
                due(x.house(3, 0), place == 0 || place == 11 ? 3 : 6, where + ": no other SEAT");
            }
        }
    }

    @Says(of = "Terms", text = "under whose UMBRELLA or not;")
    void aNeighboursUmbrellaDoesNotMatter() {
        law("d9(1=1)");
        score("s1x1");
        x.slate(0, 0, 5, 0, 47);
        x.seat(0, 5, true, 0);
        x.seat(0, 6, true, 0);
        due(x.wet(0, 6, 0), 3, "it falls there all the same");
        due(x.wet(0, 7, 0), 0, "and goes no farther");
        due(x.wet(0, 5, 0), 0, "nor back");
        x.seat(0, 6, true, 2);
        due(x.wet(0, 6, 0), 1, "into its BUCKET first");
    }

    @Says(of = "Terms", text = "all else runs off.")
    void allElseRunsOff() {
        law("d11(1=1)");
        score("s1x1");
        x.slate(0, 0, 5, 0, 47);
        x.seat(0, 5, true, 50);
        due(x.house(3, 0), 6, "two thirds, rounded down");
        due(x.house(0, 0), 6, "by the NOTE");
        due(x.house(1, 0), 6, "by the SLATE");
        for (int place : new int[] {0, 11}) {
            x.slate(0, 0, place, 0, 47);
            x.seat(0, place, true, 0);
            due(x.house(3, 0), 3, "a third, where there is one neighbour");
            due(x.house(0, 0), 3, "by the NOTE");
            due(x.house(1, 0), 3, "by the SLATE");
        }
    }

    @Says(of = "Terms", text = "Elsewhere all falls there.")
    void withoutAnUmbrellaAllFallsThere() {
        law("d11(1=1)");
        score("s1x1");
        x.slate(0, 0, 5, 0, 47);
        x.seat(0, 4, true, 0);
        x.seat(0, 6, true, 0);
        due(x.wet(0, 5, 0), 11, "between two UMBRELLAS");
        due(x.house(3, 0), 11, "nowhere else");
    }

    @Says(of = "Terms", text = "What falls on a SEAT goes into its BUCKET, as far as that holds, the rest makes it WET;")
    void theBucketHoldsAsFarAsItGoes() {
        law("dl(1=1)");
        score("s1x4,s1x3");
        x.slate(0, 0, 0, 0, 47);
        int[][] pairs = {{0, 7}, {3, 4}, {4, 3}, {5, 2}, {6, 1}, {7, 0}, {8, 0}, {99, 0}};
        for (int[] pair : pairs) {
            x.seat(0, 0, false, pair[0]);
            due(x.wet(0, 0, 0), pair[1], "7 into a BUCKET of " + pair[0]);
        }
    }

    @Says(of = "Terms", text = "that is LED to the NOTE and the SLATE.")
    void whatMakesWetIsLed() {
        law("dl(1=1)");
        score("s1x4,a2x3/t1x9");
        x.slate(3, 0, 0, 1, 2);
        x.slate(9, 0, 1, 1, 1);
        x.seat(0, 0, false, 5);
        // on SEAT 0: 4 into the BUCKET, 1 of 3 too, then 9 less 5; on SEAT 1: 4 and 9
        due(x.house(0, 0), 4, "NOTE 0");
        due(x.house(0, 1), 2, "NOTE 1");
        due(x.house(0, 2), 4 + 9, "NOTE 2");
        due(x.house(1, 3), 2 + 4, "SLATE 3");
        due(x.house(1, 9), 4 + 9, "SLATE 9");
        due(x.perform(), 19, "together");
        due(x.soFar(40) + x.soFar(41) + x.soFar(42), 19, "by NOTES");
        due(x.soFar(23) + x.soFar(29), 19, "by SLATES");
    }

    @Says(of = "Terms", text = "WET is a SEAT in an ACT by so many DROPS; a GUEST by its SEATS in all ACTS together; THE HOUSE by all.")
    void whoIsWet() {
        law("dl(1=1)");
        score("s1x1/s1x2/s1x3/s1x4");
        x.slate(0, 0, 0, 0, 47);
        x.slate(1, 7, 11, 0, 47);
        x.guest(0, 5);
        x.sits(0, 0, 0, 0);
        x.sits(0, 1, 7, 11);
        x.sits(0, 2, 0, 1);
        x.sits(0, 3, 0, 0);
        due(x.wet(0, 0, 4), 10, "a SEAT in all");
        due(x.wet(7, 11, 4), 10, "another SEAT in all");
        due(x.guestWet(0, 4), 1 + 2 + 0 + 4, "a GUEST on its SEATS");
        due(x.perform(), 20, "THE HOUSE, SEATS without a GUEST too");
    }

    @Says(of = "Terms", text = "All is asked of THE EVENING as it would be now")
    void askedIsTheEveningAsItWouldBeNow() {
        law("d5+o+r(1=1);m2(1=1)");
        score("s10x1");
        x.slate(0, 0, 0, 0, 47);
        due(x.wet(0, 0, 0), 5, "at first");
        x.keep();
        x.rain(0, 3);
        due(x.wet(0, 0, 0), 8, "behind rain");
        x.seat(0, 0, false, 1);
        due(x.wet(0, 0, 0), 7, "behind seat");
        x.slate(1, 0, 0, 0, 47);
        due(x.wet(0, 0, 0), 15, "behind slate");
        x.nail(1, true);
        due(x.wet(0, 0, 0), 7, "behind nail");
        x.perform();
        due(x.wet(0, 0, 0), 9, "behind perform");
        x.draw();
        due(x.wet(0, 0, 0), 6 + x.count(10), "behind draw");
        score("s10x1,s10x1");
        due(x.wet(0, 0, 0), 2 * (7 + x.count(10)) - 1, "behind score");
        law("d4(1=1)");
        due(x.wet(0, 0, 0), 7, "behind law");
        x.undo();
        due(x.wet(0, 0, 0), 8, "behind undo");
        due(x.drops(1, 0), 4, "drops");
        due(x.house(3, 0), 8, "house");
    }

    /** Every asking call, with its answer by a SLATE that is open, and by one that is NAILED. */
    @Says(of = "Terms", text = "of THE EVENING as it would be now")
    void everyCallAsksAnew() {
        List<IntSupplier> calls = new ArrayList<>();
        List<int[]> want = new ArrayList<>();
        expect(calls, want, () -> x.drops(0, 0), 5, 0);
        expect(calls, want, () -> x.wet(0, 0, 0), 5, 0);
        expect(calls, want, () -> x.guestWet(0, 4), 5, 0);
        expect(calls, want, () -> x.house(0, 0), 5, 0);
        expect(calls, want, () -> x.house(1, 0), 5, 0);
        expect(calls, want, () -> x.house(2, 0), 5, 0);
        expect(calls, want, () -> x.house(3, 0), 5, 0);
        expect(calls, want, () -> seated(0, 1, 10, 0), 10, 0);
        expect(calls, want, () -> x.transposed(0, 1), 5, 0);
        expect(calls, want, () -> x.leftOut(0, 0, NONE), 1, 0);
        expect(calls, want, () -> x.nails(1, 0), 1, 0);
        expect(calls, want, () -> sung(0, 0, 0, 5), 1, 0);
        expect(calls, want, () -> x.sponge(9, 1), 10, 0);
        expect(calls, want, () -> x.paid(0), 0, 7);
        expect(calls, want, () -> check(0, 0, 5), NONE, 0);
        expect(calls, want, () -> x.perform(), 5, 0);
        for (int c = 0; c < calls.size(); c++) {
            x = new RainOpera();
            law("d5(1=1);q7(1=1)");
            score("s10x1");
            x.slate(0, 0, 0, 0, 47);
            x.guest(0, 2);
            x.sits(0, 0, 0, 0);
            for (int n = 0; n < 3; n++) {
                due(calls.get(c).getAsInt(), want.get(c)[0], "call " + c + ", open");
                x.nail(0, true);
                due(calls.get(c).getAsInt(), want.get(c)[1], "call " + c + ", NAILED");
                x.nail(0, false);
            }
        }
    }

    private static void expect(List<IntSupplier> calls, List<int[]> want, IntSupplier call, int open, int nailed) {
        calls.add(call);
        want.add(new int[] {open, nailed});
    }

    @Says(of = "Terms", text = "(nothing is performed by asking).")
    void nothingIsPerformedByAsking() {
        law("d5(1=1);m2(1=1);q3(1=1)");
        score("s10x1/s20x1");
        x.slate(0, 0, 0, 0, 47);
        x.guest(0, 1);
        x.sits(0, 0, 0, 0);
        x.sits(0, 1, 0, 1);
        x.wet(0, 0, 4);
        x.guestWet(0, 4);
        x.house(3, 0);
        x.drops(0, 0);
        x.paid(4);
        x.transposed(0, 1);
        x.leftOut(0, 0, NONE);
        x.nails(1, 0);
        x.sponge(1, 0);
        seated(0, 1, 10, 7);
        sung(0, 0, 0, 5);
        check(0, 0, 5);
        for (int what : new int[] {0, 1, 10, 20, 40, 41}) {
            due(x.soFar(what), 0, "soFar(" + what + ")");
        }
        due(x.count(100), 0, "MOULD");
        due(x.count(300), 0, "the GUEST's SEAT");
        due(x.count(7), 0, "NAILED ones");
        due(x.note(0, 1), 10, "PITCH");
        due(x.count(0), 2, "NOTES");
        due(x.count(200), 0, "the BUCKET");
    }
}
