/** Each promise of the document: ordinary inputs, the edges that it names, and wrong inputs. */
public final class PromiseTest extends Stage {
    public static void main(String[] args) {
        new PromiseTest().promise1NewObject();
        new PromiseTest().promise2Seat();
        new PromiseTest().promise3Slate();
        new PromiseTest().promise4Nail();
        new PromiseTest().promise5Rain();
        new PromiseTest().promise6Guest();
        new PromiseTest().promise7Sits();
        new PromiseTest().promise8Feed();
        new PromiseTest().promise9Score();
        new PromiseTest().promise9ScoreFaults();
        new PromiseTest().promise10Law();
        new PromiseTest().promise10LawFaults();
        new PromiseTest().promise10LawReckons();
        new PromiseTest().promise11Note();
        new PromiseTest().promise12Drops();
        new PromiseTest().promise12Letters();
        new PromiseTest().promise13Wet();
        new PromiseTest().promise13UmbrellasAndSnow();
        new PromiseTest().promise14GuestWet();
        new PromiseTest().promise15House();
        new PromiseTest().promise16Seated();
        new PromiseTest().promise16SeatedRefuses();
        new PromiseTest().promise17Transposed();
        new PromiseTest().promise18LeftOut();
        new PromiseTest().promise19Nails();
        new PromiseTest().promise20Sung();
        new PromiseTest().promise21Sponge();
        new PromiseTest().promise22Paid();
        new PromiseTest().promise23Perform();
        new PromiseTest().promise24SoFar();
        new PromiseTest().promise25Seed();
        new PromiseTest().promise26Draw();
        new PromiseTest().promise27KeepAnd28Undo();
        new PromiseTest().promise29Check();
        new PromiseTest().promise30Count();
        endWithTally();
    }

    private void promise1NewObject() {
        about("promise 1");
        for (int what = 0; what <= 8; what++) {
            due(x.count(what), what == 5 ? 1 : 0, "count(" + what + ")");
        }
        for (int s = 0; s < 96; s++) {
            due(x.count(100 + s), 0, "MOULD of " + s);
            due(x.count(200 + s), 0, "BUCKET of " + s);
        }
        for (int what = 10; what <= 13; what++) {
            due(x.count(what), 0, "RAIN");
        }
        due(x.count(300), -1, "an untold GUEST's SEAT");
        due(x.wet(3, 4, 4), 0, "wet");
        due(x.undo(), false, "undo");
        due(x.perform(), -1, "perform");
        due(x.soFar(0), 0, "soFar(0)");
        due(x.draw(), 20, "draw by the seed 1");
    }

    private void promise2Seat() {
        about("promise 2");
        due(x.seat(0, 0, true, 99), true, "seat");
        due(x.count(200), 1099, "count(200)");
        due(x.seat(7, 11, false, 7), true, "seat");
        due(x.count(295), 7, "count(295)");
        due(x.seat(0, 0, false, 0), true, "seat");
        due(x.count(200), 0, "count(200)");
        due(x.seat(-1, 0, true, 0), false, "row -1");
        due(x.seat(8, 0, true, 0), false, "row 8");
        due(x.seat(0, -1, true, 0), false, "place -1");
        due(x.seat(0, 12, true, 0), false, "place 12");
        due(x.seat(0, 0, true, -1), false, "bucket -1");
        due(x.seat(0, 0, true, 100), false, "bucket 100");
        due(x.count(200), 0, "a refused call changes nothing");
        score("s5x1");
        law("d9(1=1);m3(1=1)");
        x.slate(0, 1, 1, 0, 47);
        x.perform();
        x.seat(1, 1, true, 2);
        due(x.count(113), 3, "MOULD stays");
        due(x.wet(1, 1, 0), 0, "it rains past the UMBRELLA");
        due(x.wet(1, 2, 0), 3, "it rains past the UMBRELLA");
    }

    private void promise3Slate() {
        about("promise 3");
        due(x.slate(0, 0, 0, 0, 47), true, "slate 0");
        due(x.slate(15, 7, 11, 47, 47), true, "slate 15");
        due(x.count(6), 0x8001, "told SLATES");
        due(x.slate(-1, 0, 0, 0, 0), false, "slate -1");
        due(x.slate(16, 0, 0, 0, 0), false, "slate 16");
        due(x.slate(1, -1, 0, 0, 0), false, "row -1");
        due(x.slate(1, 8, 0, 0, 0), false, "row 8");
        due(x.slate(1, 0, -1, 0, 0), false, "place -1");
        due(x.slate(1, 0, 12, 0, 0), false, "place 12");
        due(x.slate(1, 0, 0, -1, 0), false, "low -1");
        due(x.slate(1, 0, 0, 0, 48), false, "high 48");
        due(x.slate(1, 0, 0, 9, 8), false, "low above high");
        due(x.count(6), 0x8001, "told SLATES");
        x.nail(0, true);
        due(x.slate(0, 1, 1, 3, 3), true, "in place of the one before");
        due(x.count(7), 0, "not NAILED then");
        law("d9(1=1)");
        score("s3x1,s4x1,s2x1");
        due(x.wet(1, 1, 4), 9, "just by PITCH 3");
        due(x.wet(0, 0, 4), 0, "the one before is gone");
    }

    private void promise4Nail() {
        about("promise 4");
        due(x.nail(3, true), false, "no such SLATE");
        due(x.nail(3, false), false, "no such SLATE");
        due(x.nail(-1, true), false, "SLATE -1");
        due(x.nail(16, true), false, "SLATE 16");
        due(x.nail(35, true), false, "SLATE 35");
        x.slate(3, 0, 0, 0, 47);
        due(x.nail(3, false), false, "it is so");
        due(x.nail(3, true), true, "nail");
        due(x.nail(3, true), false, "it is so");
        due(x.count(7), 8, "NAILED ones");
        law("d9(1=1)");
        score("s3x1");
        due(x.wet(0, 0, 4), 0, "wet under a NAILED one");
        due(x.nail(3, false), true, "not NAILED");
        due(x.wet(0, 0, 4), 9, "wet");
    }

    private void promise5Rain() {
        about("promise 5");
        due(x.rain(0, 9), true, "rain");
        due(x.rain(3, 1), true, "rain");
        due(x.count(10), 9, "RAIN of ACT 0");
        due(x.count(13), 1, "RAIN of ACT 3");
        due(x.rain(-1, 0), false, "ACT -1");
        due(x.rain(4, 0), false, "ACT 4");
        due(x.rain(0, -1), false, "RAIN -1");
        due(x.rain(0, 10), false, "RAIN 10");
        due(x.count(10), 9, "RAIN of ACT 0");
        law("dr(1=1)");
        score("s1x1");
        x.slate(0, 0, 0, 0, 47);
        due(x.wet(0, 0, 0), 9, "wet by RAIN");
        x.rain(0, 4);
        due(x.wet(0, 0, 0), 4, "wet by RAIN");
    }

    private void promise6Guest() {
        about("promise 6");
        due(x.guest(-1, 1), false, "GUEST -1");
        due(x.guest(10, 1), false, "GUEST 10");
        due(x.guest(0, 0), false, "RANK 0");
        due(x.guest(0, 100), false, "RANK 100");
        due(x.count(8), 0, "told GUESTS");
        due(x.guest(0, 1), true, "guest");
        due(x.guest(9, 99), true, "guest");
        due(x.count(8), 0x201, "told GUESTS");
        due(x.count(309), 255, "out at first");
        due(x.sits(9, 0, 2, 3), true, "sits");
        due(x.guest(9, 5), true, "in place of the one before");
        due(x.count(309), 255, "out again");
        due(x.guest(9, 100), false, "RANK 100");
    }

    private void promise7Sits() {
        about("promise 7");
        due(x.sits(0, 0, 0, 0), false, "no such GUEST");
        x.guest(0, 1);
        x.guest(1, 1);
        due(x.sits(0, 0, 2, 3), true, "sits");
        due(x.count(300), 27, "its SEAT");
        due(x.count(310), 255, "in another ACT");
        due(x.sits(0, 0, 2, 3), true, "it is there itself");
        due(x.sits(1, 0, 2, 3), false, "another one is there");
        due(x.sits(1, 1, 2, 3), true, "in another ACT");
        due(x.sits(0, 4, 0, 0), false, "ACT 4");
        due(x.sits(0, -1, 0, 0), false, "ACT -1");
        due(x.sits(0, 0, 8, 0), false, "row 8");
        due(x.sits(0, 0, -2, 0), false, "row -2");
        due(x.sits(0, 0, 0, 12), false, "place 12");
        due(x.sits(0, 0, 0, -1), false, "place -1");
        due(x.sits(10, 0, 0, 0), false, "GUEST 10");
        due(x.sits(-1, 0, 0, 0), false, "GUEST -1");
        due(x.count(300), 27, "its SEAT");
        due(x.sits(0, 0, -1, 77), true, "out");
        due(x.count(300), 255, "out");
        due(x.sits(1, 0, -1, 0), true, "many may be out");
        due(x.sits(1, 0, 2, 3), true, "nobody is there now");
    }

    private void promise8Feed() {
        about("promise 8");
        for (int n = 20; n <= 220; n += 20) {
            due(x.feed(0, 0, 0, 0, 0), n, "feed");
        }
        due(x.feed(0, 0, 0, 0, 0), -1, "feed beyond 220");
        due(x.count(4), 220, "the tape stays");
        due(x.score(1), -1000, "a byte 0");
        due(x.count(4), 0, "empty then");
        due(x.feed(0x73307831, -1, -1, -1, -1), 20, "feed");
        due(x.score(4), 1, "the highest byte first");
        x.feed(0x73307831, 0x2c623478, 0x39ffffff, 0, 0);
        due(x.score(9), 2, "from int to int");
        due(x.note(1, 2), 9, "LENGTH");
    }

    private void promise9Score() {
        about("promise 9");
        due(x.score(1), -1, "nothing on the tape");
        feed('s', '1', 'x', '1');
        due(x.score(0), -1, "n 0");
        due(x.score(-1), -1, "n -1");
        due(x.score(201), -1, "n 201");
        due(x.score(21), -1, "not so many");
        due(x.count(4), 20, "the tape stays");
        due(x.score(4), 1, "score");
        due(x.count(4), 0, "empty then");
        due(score("t47x9,b00x1|a7x2/s1x1/s1x1/s1x1|s2x2"), 7, "score");
        due(x.count(0), 7, "NOTES");
        due(x.count(1), 6, "BARS");
        due(x.count(2), 4, "ACTS");
        due(score("s1y"), -1002, "fault");
        due(x.count(0), 7, "the one before stays");
        due(x.note(0, 1), 47, "the one before stays");
        due(score(many("s11x1", 32, ",")), 32, "32 NOTES");
        due(score(many("s11x1", 12, "|")), 12, "12 BARS");
        due(score(many("s11x1|s1x1|s1x1", 4, "/")), 12, "12 BARS in 4 ACTS");
        feed(many("s11x1", 33, ","));
        feed(0);
        due(x.count(4), 220, "tape");
        due(x.score(200), -4192, "200 bytes");
        due(x.count(2), 4, "the one before stays");
    }

    private void promise9ScoreFaults() {
        about("promise 9 (faults)");
        due(score("x"), -1000, "no VOICE");
        due(score("S1x1"), -1000, "no VOICE");
        due(score("s"), -1001, "the end");
        due(score("sx1"), -1001, "no PITCH");
        due(score("s1"), -1002, "the end");
        due(score("s1x"), -1003, "the end");
        due(score("s1x0"), -1003, "LENGTH 0");
        due(score("s1x11"), -1004, "a LENGTH of two digits");
        due(score("s1x1 "), -1004, "a blank");
        due(score("s1x1,"), -1005, "the end");
        due(score("s1x1|,"), -1005, "no NOTE");
        due(score("s1x1//s1x1"), -1005, "no BAR");
        due(score("s48x1"), -3001, "PITCH 48");
        due(score("s48"), -3001, "PITCH 48 ahead of the end");
        due(score("s481"), -3001, "PITCH 48 ahead of a third digit");
        due(score("s471x1"), -1003, "a third digit");
        due(score("s5x1,s99x1"), -3006, "PITCH 99");
        due(score(many("s1x1", 4, "/") + "/"), -6019, "a fifth ACT ahead of the end");
        due(score(many("s1x1", 12, "|") + "|x"), -6059, "a 13th BAR");
        due(score(many("s1x1", 12, "|") + "/s1x1"), -6059, "a 13th BAR in another ACT");
        due(score(many("s1x1", 12, "|") + ",s1x1"), 13, "another NOTE in the 12th BAR");
        due(score(many("s1x1", 32, ",") + ",b"), -4160, "a 33rd NOTE");
        due(score(many("s1x1", 32, ",") + ",c"), -1160, "no VOICE");
        due(score(many("s1x1", 32, ",") + ","), -1160, "the end");
    }

    private void promise10Law() {
        about("promise 10");
        due(x.law(1), -1, "nothing on the tape");
        feed("s(1=1)");
        due(x.law(0), -1, "n 0");
        due(x.law(201), -1, "n 201");
        due(x.law(21), -1, "not so many");
        due(x.count(4), 20, "the tape stays");
        due(x.law(6), 1, "law");
        due(x.count(4), 0, "empty then");
        due(law("d5(1=1);s(1=2);m1(w>0);q9(a=0)"), 4, "law");
        due(x.count(3), 4, "CLAUSES");
        due(law("d5(1=1"), -1006, "a fault");
        due(x.count(3), 4, "the one before stays");
        due(law(many("s(1=1)", 14, ";")), 14, "14 CLAUSES");
        String longest = "d1(" + many("v=1", 49, "&") + ")";
        due(law(longest), 1, "a text of " + longest.length());
        due(law("d" + many("1", 99, "+") + "(1"), -1200, "200 bytes, not one more");
    }

    private void promise10LawFaults() {
        about("promise 10 (faults)");
        due(law("x"), -1000, "no CLAUSE");
        due(law("d"), -1001, "the end");
        due(law("d(1=1)"), -1001, "no E");
        due(law("s1(1=1)"), -1001, "an E in s");
        due(law("d1"), -1002, "the end");
        due(law("d-1(1=1)"), -1001, "a sign");
        due(law("d1()"), -1003, "no C");
        due(law("d1(1)"), -1004, "no comparison");
        due(law("d1(1=)"), -1005, "no second E");
        due(law("d1(1=1=1)"), -1006, "two comparisons");
        due(law("d1(1=1&)"), -1007, "no second PIECE");
        due(law("d1((1)=1)"), -1005, "( is for a C");
        due(law("d1([1=1])"), -1005, "[ is for an E");
        due(law("d(1)(1=1)"), -1001, "( is for a C");
        due(law("d[1(1=1)"), -1003, "] is missing");
        due(law("d1(1=1))"), -1007, "one ) too many");
        due(law("d1(1=1) "), -1007, "a blank");
        due(law("d1(1=1);"), -1008, "the end");
        due(law("d1(1=1);;"), -1008, "no CLAUSE");
        due(law("dz(1=1)"), -1001, "no such letter");
        due(law("d12345(1=1)"), 1, "five digits");
        due(law("d123456(1=1)"), -2006, "a sixth digit");
        due(law("d1(1=000001)"), -2010, "a sixth digit");
        due(law("d1v(1=1)"), -1002, "no sign between");
        due(law("d[[[[[[1]]]]]](1=1)"), 1, "six [");
        due(law("d[[[[[[[1]]]]]]](1=1)"), -5007, "seven [");
        due(law("s((((((1=1))))))"), 1, "six (");
        due(law("s(((((((1=1)))))))"), -5007, "seven (");
        due(law("s(!!!!!1=1)"), 1, "( and five !");
        due(law("s(!!!!!!1=1)"), -5007, "( and six !");
        due(law("s(!!!!![1]=1)"), -5007, "a ! is open till its PIECE ends");
        due(law("s(!!!!!1=[1])"), -5009, "a ! is open till its PIECE ends");
        due(law("s(!!!!!1=1&!!!!!1=[1])"), -5018, "and no longer");
        due(law("s(!!!!!1=1&((((([1]=1))))))"), -5016, "and no longer");
        due(law("s(!!!!!1=1&((((([1]=1"), -5016, "the first from the left");
        due(law("s(!!!!!1=1&(((([1]=1)))))"), 1, "and no longer");
        due(law("s(([1]=1)&[[[[[1]]]]]=1)"), 1, "what is closed is not open");
        due(law(many("s(1=1)", 14, ";") + ";q"), -4098, "a 15th CLAUSE");
        due(law(many("s(1=1)", 14, ";") + ";x"), -1098, "no CLAUSE");
        due(law(many("s(1=1)", 14, ";") + ";"), -1098, "the end");
    }

    /** Through a NOTE of VOICE 1, PITCH 20, LENGTH 3 and SLATE 0 above row 2, place 5. */
    private void reckons(String law, int drops) {
        law(law);
        due(x.drops(0, 0), drops, law);
    }

    private void promise10LawReckons() {
        about("promise 10 (meaning)");
        score("a20x3");
        x.slate(0, 2, 5, 0, 47);
        reckons("d1+2*3(1=1)", 7);
        reckons("d20-7-2(1=1)", 11);
        reckons("d[1+2]*3(1=1)", 9);
        reckons("d90/4/5(1=1)", 4);
        reckons("d90%50/7*2(1=1)", 10);
        reckons("d[0-7]/2+50(1=1)", 47);
        reckons("d[0-7]%4+50(1=1)", 47);
        reckons("d100(1=1)", 99);
        reckons("d0-1(1=1)", 0);
        reckons("d65536*65536+5(1=1)", 5);
        reckons("d99999*99999(1=1)", 99);
        reckons("d50000*50000(1=1)", 0);
        reckons("d[0-65536*32768]/[0-1]+[1-65536*32768](1=1)", 1);
        reckons("d1/0(1=1);d7(1=1)", 0);
        reckons("d5+1%0(1=1)", 0);
        reckons("d5+[1/0](1=1)", 0);
        reckons("d5(1/0=0);d7(1=1)", 7);
        reckons("d5(!1/0=0);d7(1=1)", 7);
        reckons("d5(!(1/0=0));d7(1=1)", 7);
        reckons("d5(1/0=0|1=1);d7(1=1)", 7);
        reckons("d5((1/0=0)|1=1);d7(1=1)", 7);
        reckons("d5(1=1|1/0=0);d7(1=1)", 5);
        reckons("d5(1=2&1/0=0|1=1);d7(1=1)", 5);
        reckons("d5(1=2&1/0=0);d7(1=1)", 7);
        reckons("d5(!(1=1|1/0=0)|1=1);d7(1=1)", 5);
        reckons("d5(1=1|1=1&1=2);d7(1=1)", 5);
        reckons("d5((1=1|1=1)&1=2);d7(1=1)", 7);
        reckons("d5(1=2|1=2|1=1);d7(1=1)", 5);
        reckons("d5(1=1&1=1&1=2);d7(1=1)", 7);
        reckons("d5(!1=1|1=1);d7(1=1)", 5);
        reckons("d5(!(1=1|1=1));d7(1=1)", 7);
        reckons("d5(!!1=1);d7(1=1)", 5);
        reckons("d5(1<2&2>1&!1<1&!1>1&!2<1);d7(1=1)", 5);
        reckons("d5(1=2);d6(1=1);d7(1=1)", 6);
        reckons("d5(1=2)", 0);
        reckons("m5(1=1);q5(1=1);s(1=1)", 0);
    }

    private void promise11Note() {
        about("promise 11");
        due(x.note(0, 0), -1, "no SCORE");
        score("s1x2|a13x4,t25x6/b47x9");
        int[][] all = {{0, 1, 2, 0, 0}, {1, 13, 4, 1, 0}, {2, 25, 6, 1, 0}, {3, 47, 9, 2, 1}};
        for (int i = 0; i < 4; i++) {
            for (int what = 0; what < 5; what++) {
                due(x.note(i, what), all[i][what], "note(" + i + ", " + what + ")");
            }
        }
        due(x.note(4, 0), -1, "NOTE 4");
        due(x.note(-1, 0), -1, "NOTE -1");
        due(x.note(0, 5), -1, "what 5");
        due(x.note(0, -1), -1, "what -1");
    }

    private void promise12Drops() {
        about("promise 12");
        score("s10x1,s20x1");
        law("d7(1=1);s(i=0)");
        due(x.drops(0, 0), -1, "no such SLATE");
        x.slate(0, 0, 0, 10, 19);
        due(x.drops(0, 0), 7, "SNOW, too");
        due(x.drops(1, 0), 0, "it is not open");
        x.slate(0, 0, 0, 20, 20);
        due(x.drops(0, 0), 0, "it is not open");
        due(x.drops(1, 0), 7, "drops");
        x.seat(0, 0, true, 99);
        due(x.drops(1, 0), 7, "UMBRELLA and BUCKET do not matter");
        x.nail(0, true);
        due(x.drops(1, 0), 0, "NAILED");
        due(x.drops(2, 0), -1, "NOTE 2");
        due(x.drops(-1, 0), -1, "NOTE -1");
        due(x.drops(0, 16), -1, "SLATE 16");
        due(x.drops(0, -1), -1, "SLATE -1");
    }

    private void letter(String letter, int at0, int at4) {
        law("d" + letter + "(1=1);m3(1=1)");
        due(x.drops(0, 3), at0, "letter " + letter + " of NOTE 0");
        due(x.drops(4, 5), at4, "letter " + letter + " of NOTE 4");
    }

    private void promise12Letters() {
        about("promise 12 (letters)");
        score("a10x2|s9x1,s9x1/s9x1|b20x7");
        x.slate(3, 1, 2, 10, 10);
        x.slate(5, 6, 11, 20, 20);
        x.rain(0, 4);
        x.rain(1, 9);
        law("m3(x=2);m5(y=6)");
        x.perform();
        letter("v", 1, 3);
        letter("p", 10, 20);
        letter("l", 2, 7);
        letter("i", 0, 4);
        letter("b", 0, 3);
        letter("k", 3, 5);
        letter("a", 0, 1);
        letter("r", 4, 9);
        letter("y", 1, 6);
        letter("x", 2, 11);
        letter("o", 3, 5);
        letter("w", 0, 0);
    }

    private void promise13Wet() {
        about("promise 13");
        score("s5x4,s5x3/s5x2");
        law("dl(1=1)");
        x.slate(0, 3, 4, 0, 9);
        due(x.wet(3, 4, 0), 7, "wet in ACT 0");
        due(x.wet(3, 4, 1), 2, "wet in ACT 1");
        due(x.wet(3, 4, 2), 0, "wet in ACT 2");
        due(x.wet(3, 4, 4), 9, "wet in all");
        due(x.wet(3, 5, 4), 0, "beside it");
        x.seat(3, 4, false, 6);
        due(x.wet(3, 4, 0), 1, "beyond the BUCKET");
        due(x.wet(3, 4, 1), 0, "the BUCKET is empty ahead of each ACT");
        x.seat(3, 4, false, 1);
        due(x.wet(3, 4, 4), 7, "the BUCKET is empty ahead of each ACT");
        due(x.wet(-1, 0, 0), -1, "row -1");
        due(x.wet(8, 0, 0), -1, "row 8");
        due(x.wet(0, -1, 0), -1, "place -1");
        due(x.wet(0, 12, 0), -1, "place 12");
        due(x.wet(0, 0, -1), -1, "ACT -1");
        due(x.wet(0, 0, 5), -1, "ACT 5");
    }

    private void promise13UmbrellasAndSnow() {
        about("promise 13 (umbrellas, snow)");
        score("s5x8,a5x5/s5x1");
        law("dl(1=1);s(v=1);s(a=3)");
        x.slate(0, 1, 0, 0, 9);
        x.slate(1, 2, 11, 0, 9);
        x.seat(1, 0, true, 0);
        x.seat(2, 11, true, 0);
        due(x.wet(1, 0, 4), 0, "under an UMBRELLA");
        due(x.wet(1, 1, 0), 2, "a third, rounded down");
        due(x.wet(0, 11, 4), 0, "not in the row ahead");
        due(x.wet(2, 10, 0), 2, "a third, rounded down");
        due(x.wet(3, 0, 4), 0, "not in the next row");
        due(x.wet(1, 1, 1), 1, "SNOW past it, an ACT late; a third of 1 is 0");
        x.seat(1, 1, true, 0);
        due(x.wet(1, 1, 0), 2, "a neighbour's UMBRELLA does not matter");
        due(x.wet(1, 2, 4), 0, "and it goes no farther");
        x.seat(1, 1, false, 1);
        due(x.wet(1, 1, 0), 1, "into its BUCKET first");
        due(x.wet(1, 1, 1), 0, "into its BUCKET first");
        x.seat(1, 0, false, 3);
        due(x.wet(1, 0, 0), 5, "beyond the BUCKET");
        due(x.wet(1, 0, 1), 3, "SNOW and rain in one BUCKET");
        due(x.house(0, 1), 2 + 1, "SNOW fills the BUCKET first: LED to NOTE 1, and a third of it elsewhere");
        due(x.house(0, 2), 1, "what comes behind it is all WET");
        score("s5x1/s5x1/s5x1/s5x9");
        due(x.wet(1, 0, 3), 0, "SNOW of ACT 3 falls never");
        score("a5x9");
        due(x.wet(1, 0, 0), 0, "SNOW");
        due(x.wet(1, 0, 1), 6, "SNOW falls in an ACT that THE SCORE has not");
        due(x.house(3, 2), 0, "and is gone then");
    }

    private void promise14GuestWet() {
        about("promise 14");
        score("s5x4/s5x3/s5x2");
        law("dl(1=1)");
        x.slate(0, 0, 0, 0, 9);
        due(x.guestWet(0, 0), -1, "no such GUEST");
        x.guest(0, 7);
        due(x.guestWet(0, 4), 0, "out");
        x.sits(0, 0, 0, 0);
        x.sits(0, 1, 0, 1);
        x.sits(0, 2, 0, 0);
        due(x.guestWet(0, 0), 4, "ACT 0");
        due(x.guestWet(0, 1), 0, "ACT 1");
        due(x.guestWet(0, 2), 2, "ACT 2");
        due(x.guestWet(0, 3), 0, "ACT 3, out");
        due(x.guestWet(0, 4), 6, "in all");
        due(x.guestWet(0, 5), -1, "ACT 5");
        due(x.guestWet(0, -1), -1, "ACT -1");
        due(x.guestWet(10, 0), -1, "GUEST 10");
        due(x.guestWet(-1, 0), -1, "GUEST -1");
    }

    private void promise15House() {
        about("promise 15");
        due(x.house(0, 0), -1, "no NOTES");
        due(x.house(2, 0), 0, "a VOICE without a SCORE");
        score("s5x4,b6x3/b5x2");
        law("dl(1=1)");
        due(x.house(1, 0), -1, "no SLATE");
        x.slate(0, 0, 0, 5, 6);
        x.slate(7, 0, 0, 5, 5);
        x.seat(0, 0, false, 5);
        due(x.house(0, 0), 3, "by NOTE 0: 4 into the BUCKET, one more of the other 4");
        due(x.house(0, 1), 3, "by NOTE 1");
        due(x.house(0, 2), 0, "by NOTE 2: 4 into the BUCKET, empty again");
        due(x.house(0, 3), -1, "NOTE 3");
        due(x.house(0, -1), -1, "NOTE -1");
        due(x.house(1, 0), 3, "by SLATE 0");
        due(x.house(1, 7), 3, "by SLATE 7");
        due(x.house(1, 1), -1, "SLATE 1");
        due(x.house(1, 16), -1, "SLATE 16");
        due(x.house(2, 0), 3, "by VOICE 0");
        due(x.house(2, 1), 0, "by VOICE 1");
        due(x.house(2, 3), 3, "by VOICE 3");
        due(x.house(2, 4), -1, "VOICE 4");
        due(x.house(2, -1), -1, "VOICE -1");
        due(x.house(3, 0), 6, "in ACT 0");
        due(x.house(3, 3), 0, "in ACT 3");
        due(x.house(3, 4), -1, "ACT 4");
        due(x.house(3, -1), -1, "ACT -1");
        due(x.house(4, 0), -1, "what 4");
        due(x.house(-1, 0), -1, "what -1");
    }

    /** SEATS 0 to 4 are WET by 0, 10, 20, 30, 30 in ACT 0. */
    private void wetRow() {
        score("s5x1");
        law("d10*x(x<4);d30(1=1)");
        for (int k = 0; k < 5; k++) {
            x.slate(k, 0, k, 0, 47);
        }
    }

    private void promise16Seated() {
        about("promise 16");
        wetRow();
        x.guest(2, 5);
        x.guest(4, 9);
        x.guest(9, 5);
        due(seated(0, 0x214, 10, 1, 2, 3), 9 * 10 + 5 * 50, "together");
        due(x.count(4), 0, "empty then");
        due(seated(0, 0x214, 4, 3, 2, 1), 1, "the highest RANK");
        due(seated(0, 0x214, 2, 3, 2, 1), 2, "of like ones the least row");
        due(seated(0, 0x214, 9, 3, 2, 1), 3, "of like ones the least row");
        due(x.count(302), 255, "not done");
        due(seated(0, 0x214, 11, 3, 1, 2), 9 * 10 + 5 * 50, "done");
        due(x.count(302), 2, "done");
        due(x.count(304), 1, "done");
        due(x.count(309), 3, "done");
        due(x.count(312), 255, "in that ACT alone");
        due(seated(0, 0x10, 11, 4), 270, "one alone");
        due(seated(0, 0x204, 10, 1, 2), 150, "their own SEATS, and free ones");
        due(seated(1, 0x214, 2, 90, 80, 70), 70, "all dry: the least row");
        due(seated(1, 0x214, 9, 90, 80, 70), 90, "all dry: the least row");
        for (int g = 0; g < 8; g++) {
            x.guest(g, 1 + g);
        }
        due(seated(0, 255, 10, 95, 94, 4, 3, 2, 1, 0, 6), -2, "GUEST 9 is there");
        x.sits(9, 0, -1, 0);
        due(seated(0, 255, 10, 95, 94, 4, 3, 2, 1, 0, 6), 4 * 10 + 3 * 20 + 30 + 60, "eight");
        x.sits(9, 0, 0, 6);
        due(seated(0, 255, 0, 95, 94, 4, 3, 2, 1, 0, 6), -2, "GUEST 9 is there");
    }

    private void promise16SeatedRefuses() {
        about("promise 16 (refusals)");
        wetRow();
        x.guest(0, 1);
        x.guest(1, 2);
        x.guest(2, 3);
        x.sits(2, 0, 0, 3);
        feed(1, 2);
        due(x.seated(-1, 3, 2, 10), -1, "ACT -1");
        due(x.seated(4, 3, 2, 10), -1, "ACT 4");
        due(x.seated(0, 0, 0, 10), -1, "no GUESTS");
        due(x.seated(0, 3, 1, 10), -1, "not as many SEATS");
        due(x.seated(0, 3, 3, 10), -1, "not as many SEATS");
        due(x.seated(0, 9, 2, 10), -1, "an untold GUEST");
        due(x.seated(0, 1 << 10, 1, 10), -1, "GUEST 10");
        due(x.seated(0, -1, 2, 10), -1, "all bits");
        due(x.seated(0, 3, 2, 2), -1, "not one of these GUESTS");
        due(x.seated(0, 3, 2, -1), -1, "what -1");
        due(x.seated(0, 3, 2, 12), -1, "what 12");
        due(x.count(4), 20, "the tape stays");
        due(x.seated(0, 3, 2, 10), 40, "seated");
        due(x.seated(0, 3, 2, 10), -1, "it has not so many");
        due(seated(0, 3, 10, 1, 96), -2, "no SEAT 96");
        due(seated(0, 3, 11, 1, 255), -2, "no SEAT 255");
        due(seated(0, 3, 10, 1, 1), -2, "twice");
        due(seated(0, 3, 11, 1, 3), -2, "another GUEST's");
        due(x.count(4), 0, "empty then");
        due(x.count(300), 255, "nothing is done");
        due(seated(1, 3, 10, 1, 3), 0, "in another ACT it is not");
        due(seated(0, 6, 10, 1, 3), 90, "it is one of these itself");
        for (int g = 0; g < 10; g++) {
            x.guest(g, 1);
        }
        due(seated(0, 0x1ff, 10, 1, 2, 3, 4, 5, 6, 7, 8, 9), -1, "nine");
    }

    private void promise17Transposed() {
        about("promise 17");
        due(x.transposed(0, 0), -100, "no such GUEST");
        x.guest(0, 1);
        due(x.transposed(0, 0), -100, "no NOTES");
        score("s20x4/a22x3");
        law("dl(1=1)");
        x.slate(0, 0, 0, 18, 24);
        x.sits(0, 0, 0, 0);
        x.sits(0, 1, 0, 0);
        due(x.transposed(0, 0), 5, "dry from 5 on, or by -5; the one above");
        due(x.transposed(0, 1), 0, "dry");
        x.slate(1, 0, 0, 25, 25);
        due(x.transposed(0, 0), -5, "dry by -5 alone, of 5");
        x.slate(1, 0, 0, 0, 17);
        x.slate(2, 0, 0, 25, 34);
        due(x.transposed(0, 0), 0, "as WET by 0 as by others");
        due(x.transposed(0, 1), 7, "WET by all");
        law("dp-15(1=1)");
        due(x.transposed(0, 0), -7, "p is the PITCH that is sung");
        due(x.transposed(0, 1), 0, "p is the PITCH that is sung");
        law("dp+0-2(1=1);s(p>30)");
        score("s3x1/s47x1");
        due(x.transposed(0, 0), -1, "within 0 to 47 all of them");
        law("d50-p(1=1)");
        due(x.transposed(0, 0), 0, "within 0 to 47 all of them");
        law("dp(1=1);s(p<3)");
        score("a4x1,s5x1/b13x1");
        x.sits(0, 1, -1, 0);
        due(x.transposed(0, 0), -3, "SNOW falls when it is out");
        due(x.transposed(0, 1), 0, "SNOW falls when it is out");
        score("s0x1/s47x1");
        due(x.transposed(0, 0), 0, "just by 0");
        due(x.transposed(0, 2), -100, "what 2");
        due(x.transposed(0, -1), -100, "what -1");
        due(x.transposed(10, 0), -100, "GUEST 10");
        due(x.transposed(1, 0), -100, "GUEST 1");
        x.guest(1, 1);
        due(x.transposed(1, 0), 0, "one that is out");
    }

    private void promise18LeftOut() {
        about("promise 18");
        due(x.leftOut(0, 0, -1), -1, "no such GUEST");
        x.guest(0, 1);
        due(x.leftOut(0, 0, -1), 0, "out");
        due(x.leftOut(0, 0, 0), -2, "no such place");
        score("s5x2,s5x3|s5x4,s6x9,s5x4/s5x1,a5x8/s5x5");
        law("dl(1=1);s(v=1)");
        x.slate(0, 0, 0, 5, 5);
        x.sits(0, 0, 0, 0);
        x.sits(0, 1, 0, 0);
        x.sits(0, 2, 0, 0);
        x.sits(0, 3, 0, 0);
        due(x.leftOut(0, 0, -1), 4, "all that make it WET");
        due(x.leftOut(0, 0, 2), 2, "all that make it WET");
        due(x.leftOut(0, 0, 3), 4, "not NOTE 3, by which it is not open");
        x.seat(0, 0, false, 6);
        due(x.leftOut(0, 0, -1), 2, "7 to leave out");
        due(x.leftOut(0, 0, 0), 1, "the least row: 3 + 4");
        due(x.leftOut(0, 0, 1), 2, "the least row: 3 + 4");
        due(x.leftOut(0, 0, 2), -2, "no such place");
        due(x.leftOut(0, 0, -2), -2, "no such place");
        x.seat(0, 0, false, 9);
        due(x.leftOut(0, 0, -1), 1, "4 to leave out");
        due(x.leftOut(0, 0, 0), 2, "the first that does");
        due(x.leftOut(0, 1, -1), 0, "not WET");
        due(x.leftOut(0, 2, -1), 1, "SNOW falls all the same");
        due(x.leftOut(0, 2, 0), 7, "through all ACTS");
        x.seat(0, 0, false, 7);
        due(x.leftOut(0, 2, -1), -2, "SNOW");
        due(x.leftOut(0, 2, 0), -2, "SNOW");
        due(x.leftOut(0, 3, -1), 0, "an ACT that THE SCORE has not");
        due(x.leftOut(0, 4, -1), -1, "ACT 4");
        due(x.leftOut(0, -1, -1), -1, "ACT -1");
        due(x.leftOut(10, 0, -1), -1, "GUEST 10");
        due(x.guestWet(0, 0), 6, "nothing is left out by asking");
        x.seat(0, 0, false, 0);
        score(many("s5x1", 32, ","));
        due(x.leftOut(0, 0, -1), 32, "all of 32");
        due(x.leftOut(0, 0, 31), 31, "the last of 32");
        due(x.leftOut(0, 0, 32), -2, "no such place");
    }

    private void promise19Nails() {
        about("promise 19");
        due(x.nails(1, 0), -1, "no such GUEST");
        x.guest(0, 1);
        x.guest(3, 1);
        due(x.nails(1, 0), 0, "dry");
        due(x.nails(9, 1), 0, "dry");
        due(x.nails(0, 0), -1, "empty");
        due(x.nails(2, 0), -1, "an untold GUEST");
        due(x.nails(1 << 10, 0), -1, "GUEST 10");
        due(x.nails(-1, 0), -1, "all bits");
        due(x.nails(1, 2), -1, "what 2");
        due(x.nails(1, -1), -1, "what -1");
        score("s5x1/a5x1");
        law("dk(1=1);s(v=1)");
        for (int k = 1; k < 6; k++) {
            x.slate(k, 0, 0, 0, 47);
        }
        x.seat(0, 0, false, 8);
        x.sits(0, 0, 0, 0);
        due(x.nails(1, 0), 2, "7 of 15 to keep out");
        due(x.nails(1, 1), 1 << 3 | 1 << 4, "the least bits");
        x.sits(3, 2, 0, 0);
        due(x.nails(8, 1), 1 << 3 | 1 << 4, "by SNOW");
        x.nail(3, true);
        due(x.nails(1, 0), 1, "one more");
        due(x.nails(1, 1), 1 << 4, "4 of 12 to keep out");
        x.nail(3, false);
        x.seat(0, 1, true, 0);
        x.slate(6, 0, 1, 0, 47);
        x.slate(7, 0, 1, 40, 47);
        x.sits(3, 0, 0, 2);
        due(x.nails(8, 1), 1 << 3 | 1 << 4 | 1 << 6, "past an UMBRELLA, and 9 of 17 by SNOW");
        x.sits(3, 2, -1, 0);
        due(x.nails(8, 1), 1 << 6, "past an UMBRELLA");
        due(x.nails(9, 1), 1 << 3 | 1 << 4 | 1 << 6, "both");
        due(x.count(7), 0, "nothing is NAILED by asking");
        law("d1(1=1)");
        x.seat(0, 0, false, 0);
        for (int k = 0; k < 16; k++) {
            x.slate(k, 0, 0, 0, 47);
        }
        due(x.nails(1, 0), 16, "all SLATES");
        due(x.nails(1, 1), 0xffff, "all SLATES");
    }

    private void promise20Sung() {
        about("promise 20");
        feed(0, 0);
        due(x.sung(0, 1, 0), -1, "no SCORE");
        due(x.count(4), 20, "the tape stays");
        x.check(0, 0, 0);
        score("s5x1|s5x9/s5x4|s5x3|s5x7,a5x9|s5x2,s6x1");
        law("dl(1=1);s(v=1|b=1)");
        x.slate(0, 0, 0, 5, 5);
        x.slate(1, 0, 1, 6, 6);
        due(x.wet(0, 0, 1), 25, "with SNOW of ACT 0");
        due(sung(1, 0, 0, 7), 2, "4 and 3, or 7");
        due(x.count(4), 0, "empty then");
        due(sung(1, 1, 0, 7), 3, "4 and 3");
        due(sung(1, 2, 0, 7), 0, "no BAR in all");
        due(sung(1, 0, 0, 9), 2, "4, 3 and 2, or 7 and 2");
        due(sung(1, 1, 0, 9), 11, "4, 3 and 2");
        due(sung(1, 2, 0, 9), 8, "the fourth in all");
        due(sung(1, 0, 0, 9, 1, 1), 2, "two SEATS");
        due(sung(1, 0, 0, 9, 1, 0), 0, "two SEATS");
        due(sung(1, 1, 0, 9, 1, 0), -2, "none");
        due(sung(1, 2, 0, 9, 1, 0), -2, "none");
        due(sung(1, 0, 0, 16), 1, "all");
        due(sung(1, 1, 0, 16), 15, "all");
        due(sung(1, 2, 0, 16), 15, "all");
        due(sung(0, 1, 0, 1), 1, "ACT 0");
        due(sung(0, 0, 0, 1), 2, "SNOW does not fall in it");
        due(sung(1, 0, 5, 0), 16, "a dry SEAT");
        due(sung(1, 2, 5, 0), 0, "a dry SEAT");
        due(sung(1, 0, 0, 7, 0, 7), 2, "a SEAT twice");
        due(sung(1, 0, 0, 7, 0, 6), 0, "a SEAT twice");
        x.seat(0, 0, false, 6);
        due(sung(1, 0, 0, 0), 6, "BUCKET: 0, 2, 3, 4, 2 + 3, 2 + 4");
        due(sung(1, 0, 0, 1), 2, "BUCKET: 7 in all");
        due(sung(1, 0, 96, 0), -2, "no SEAT 96");
        due(sung(1, 1, 0, 0, 255, 0), -2, "no SEAT 255");
        due(x.count(4), 0, "empty then");
        feed(0, 0, 0, 0);
        due(x.sung(2, 1, 0), -1, "ACT 2");
        due(x.sung(-1, 1, 0), -1, "ACT -1");
        due(x.sung(1, 0, 0), -1, "n 0");
        due(x.sung(1, 21, 0), -1, "n 21");
        due(x.sung(1, 11, 0), -1, "it has not so many");
        due(x.sung(1, 1, 3), -1, "what 3");
        due(x.sung(1, 1, -1), -1, "what -1");
        due(x.count(4), 20, "the tape stays");
        due(x.sung(1, 10, 0), 6, "ten pairs");
        score(many("s5x1", 12, "|"));
        law("d50(1=1)");
        x.seat(0, 0, false, 0);
        due(sung(0, 0, 0, 250), 792, "5 of 12 BARS; a byte above 127");
        due(sung(0, 1, 0, 250), 31, "the first five");
        due(sung(0, 0, 1, 0), 4096, "all sets of 12 BARS");
        int[] twenty = new int[40];
        twenty[38] = 0;
        twenty[39] = 100;
        for (int t = 0; t < 19; t++) {
            twenty[2 * t] = 95 - t;
        }
        due(sung(0, 0, twenty), 66, "twenty SEATS, 2 of 12 BARS");
    }

    private void promise21Sponge() {
        about("promise 21");
        due(x.sponge(1, 0), 0, "all alike: the lowest");
        due(x.sponge(1, 1), 0, "nothing less");
        score("s5x5/s5x5");
        law("d10*x+l(1=1)");
        for (int k = 0; k < 4; k++) {
            x.slate(k, 0, k, 0, 47);
        }
        due(x.sponge(99, 1), 0, "no GUESTS");
        x.guest(0, 9);
        x.guest(1, 4);
        x.sits(0, 0, 0, 1);
        x.sits(1, 0, 0, 3);
        x.sits(1, 1, 0, 3);
        due(x.sponge(10, 0), 1, "9 times 10, or 4 times 20");
        due(x.sponge(10, 1), 90, "9 times 10, or 4 times 20");
        due(x.sponge(20, 0), 3, "9 times 15, or 4 times 40");
        due(x.sponge(20, 1), 160, "9 times 15, or 4 times 40");
        x.guest(1, 9);
        x.sits(1, 0, 0, 3);
        due(x.sponge(15, 0), 1, "of like ones the lowest");
        x.seat(0, 3, false, 99);
        x.seat(0, 1, false, 12);
        due(x.sponge(99, 1), 27, "with the BUCKET");
        due(x.sponge(0, 0), -1, "n 0");
        due(x.sponge(100, 0), -1, "n 100");
        due(x.sponge(1, 2), -1, "what 2");
        due(x.sponge(1, -1), -1, "what -1");
        law("d99(1=1)");
        due(x.sponge(99, 1), 9 * 87, "above 99 with its BUCKET");
    }

    private void promise22Paid() {
        about("promise 22");
        due(x.paid(4), 0, "no GUESTS");
        score("s5x5");
        law("d1(1=1);q100*a+10*r+y+x(1=1)");
        x.slate(0, 0, 3, 0, 47);
        x.rain(0, 2);
        x.rain(2, 1);
        x.guest(0, 9);
        x.guest(1, 9);
        x.sits(0, 0, 0, 3);
        x.sits(1, 0, 4, 5);
        x.sits(0, 2, 0, 3);
        x.sits(1, 2, 4, 5);
        due(x.paid(0), 29, "nothing for the WET one");
        due(x.paid(1), 0, "all are out");
        due(x.paid(2), 213 + 219, "both are dry");
        due(x.paid(4), 29 + 213 + 219, "for all");
        x.seat(0, 3, false, 1);
        due(x.paid(0), 29 + 23, "the BUCKET holds it");
        law("q1000(x=3);q0-1(x=5)");
        due(x.paid(0), 999, "within 0 to 999");
        law("q7+v+p+l+i+b+k+w(1=1)");
        due(x.paid(0), 14, "what is not told is 0");
        law("m5(1=1);qo(1=1)");
        x.perform();
        due(x.paid(0), 10, "by MOULD");
        due(x.paid(5), -1, "ACT 5");
        due(x.paid(-1), -1, "ACT -1");
    }

    private void promise23Perform() {
        about("promise 23");
        law("d4+o(1=1);mw+o(x=3);m20(x=2);mv+p+l+i+b+k+a+r(x=1);my+2(y=7);q10+o(1=1)");
        due(x.perform(), -1, "no SCORE");
        due(x.soFar(0), 0, "EVENINGS");
        score("s5x5,a5x1");
        x.slate(2, 0, 3, 0, 47);
        x.rain(0, 5);
        x.guest(1, 1);
        x.sits(1, 0, 0, 3);
        x.sits(1, 1, 0, 3);
        due(x.perform(), 8, "4 and 4");
        due(x.count(103), 8, "MOULD by w");
        due(x.count(102), 9, "MOULD by 9 at most");
        due(x.count(101), 0, "in m these are 0");
        due(x.count(186), 9, "of each SEAT, of row 7, too");
        due(x.count(187), 0, "the first CLAUSE that holds");
        due(x.count(195), 9, "of each SEAT, of row 7, too");
        due(x.soFar(1), 10, "PAID with the MOULD ahead of it");
        due(x.perform(), 24, "12 and 12");
        due(x.count(103), 17, "MOULD by 9 at most");
        due(x.soFar(0), 2, "EVENINGS");
        due(x.soFar(1), 28, "PAID");
        due(x.soFar(11), 32, "WET so far");
        due(x.soFar(22), 32, "LED to SLATE 2");
        due(x.soFar(40), 16, "LED to NOTE 0");
        due(x.soFar(41), 16, "LED to NOTE 1");
        for (int n = 0; n < 12; n++) {
            x.perform();
        }
        due(x.count(102), 99, "MOULD 99 at most");
        due(x.count(103), 99, "MOULD 99 at most");
        due(x.wet(0, 3, 0), 198, "99 DROPS at most");
    }

    private void promise24SoFar() {
        about("promise 24");
        due(x.soFar(-1), -1, "what -1");
        due(x.soFar(2), -1, "what 2");
        due(x.soFar(9), -1, "what 9");
        due(x.soFar(10), -1, "an untold GUEST");
        due(x.soFar(19), -1, "an untold GUEST");
        due(x.soFar(20), 0, "SLATE 0");
        due(x.soFar(35), 0, "SLATE 15");
        due(x.soFar(36), -1, "what 36");
        due(x.soFar(39), -1, "what 39");
        due(x.soFar(40), 0, "NOTE 0");
        due(x.soFar(71), 0, "NOTE 31");
        due(x.soFar(72), -1, "what 72");
        score("s5x5,s5x2");
        law("dl(1=1)");
        x.slate(15, 0, 0, 0, 47);
        x.seat(0, 0, false, 1);
        x.guest(9, 5);
        x.sits(9, 0, 0, 0);
        x.perform();
        due(x.soFar(19), 6, "GUEST 9");
        due(x.soFar(35), 6, "not what the BUCKET holds");
        due(x.soFar(40), 4, "not what the BUCKET holds");
        due(x.soFar(41), 2, "NOTE 1");
        x.guest(9, 7);
        due(x.soFar(19), 6, "whoever it was");
        score("s5x9");
        due(x.soFar(41), 2, "of whatever SCORE");
        x.perform();
        due(x.soFar(19), 6, "it is out");
        due(x.soFar(40), 12, "of whatever SCORE");
        due(x.soFar(35), 14, "SLATE 15");
    }

    private void promise25Seed() {
        about("promise 25");
        due(x.seed(-1), false, "-1");
        due(x.seed(65536), false, "65536");
        due(x.count(5), 1, "X");
        due(x.seed(65535), true, "65535");
        due(x.count(5), 65535, "X");
        due(x.seed(0), true, "0");
        due(x.count(5), 0, "X");
        x.draw();
        due(x.count(10), 9, "13849 modulo 10");
    }

    private void promise26Draw() {
        about("promise 26");
        x.seed(65535);
        int seed = 65535;
        for (int n = 0; n < 50; n++) {
            int sum = 0;
            int[] rain = new int[4];
            for (int act = 0; act < 4; act++) {
                seed = (int) ((25173L * seed + 13849L) % 65536L);
                rain[act] = seed % 10;
                sum += rain[act];
            }
            due(x.draw(), sum, "draw");
            for (int act = 0; act < 4; act++) {
                due(x.count(10 + act), rain[act], "RAIN");
            }
            due(x.count(5), seed, "X");
        }
        score("s1x1");
        law("dr(1=1)");
        x.slate(0, 0, 0, 0, 47);
        x.seed(1);
        due(x.wet(0, 0, 0), x.count(10), "WET by RAIN");
        x.draw();
        due(x.wet(0, 0, 0), 2, "WET by RAIN");
    }

    private void promise27KeepAnd28Undo() {
        about("promises 27, 28");
        due(x.undo(), false, "none was KEPT");
        score("s5x5");
        law("d4(1=1);m1(1=1);q2(1=1)");
        x.slate(2, 0, 3, 0, 47);
        x.seat(0, 3, false, 1);
        x.guest(1, 1);
        x.sits(1, 0, 0, 3);
        x.sits(1, 1, 0, 3);
        x.rain(1, 6);
        x.perform();
        due(x.keep(), 1, "EVENINGS");
        for (int n = 0; n < 2; n++) {
            x.perform();
            x.seat(0, 3, true, 9);
            x.slate(2, 1, 1, 1, 1);
            x.nail(2, true);
            x.slate(3, 1, 1, 1, 1);
            x.guest(1, 9);
            x.guest(2, 9);
            x.sits(2, 3, 0, 3);
            x.draw();
            score("s5x5,s5x6");
            law("d5(1=1);m1(1=1)");
            feed(1);
            due(x.undo(), true, "undo, and once more");
            due(x.count(203), 1, "SEATS");
            due(x.count(100), 1, "MOULD");
            due(x.count(6), 4, "SLATES");
            due(x.count(7), 0, "NAILED ones");
            due(x.count(8), 2, "GUESTS");
            due(x.count(301), 3, "a GUEST's SEAT");
            due(x.count(11), 6, "RAIN");
            due(x.count(10), 0, "RAIN");
            due(x.count(5), 1, "X");
            due(x.soFar(0), 1, "EVENINGS");
            due(x.soFar(1), 2, "PAID");
            due(x.soFar(11), 3, "GUESTS' WET");
            due(x.soFar(22), 3, "LED to SLATES");
            due(x.soFar(40), 3, "LED to NOTES");
            due(x.count(0), 2, "THE SCORE is not KEPT");
            due(x.count(3), 2, "THE LAW is not KEPT");
            due(x.count(4), 20, "the tape is not KEPT");
            due(x.wet(0, 3, 4), 9, "as it would be now");
            x.check(0, 0, 0);
        }
        x.sponge(9, 0);
        due(x.sponge(9, 1), 9, "RANK 1");
        x.seed(7);
        due(x.keep(), 1, "kept anew");
        x.seed(8);
        x.undo();
        due(x.count(5), 7, "as they were KEPT last");
    }

    private void promise29Check() {
        about("promise 29");
        due(x.check(0, 0, 0), -1, "right, of none");
        due(x.check(0, 0, 1), -2, "it has not so many");
        score("s5x1/s5x2");
        law("d[x+1]*l(1=1)");
        x.slate(0, 2, 0, 0, 47);
        x.slate(1, 2, 11, 0, 47);
        due(check(0, 2, 1, 0, 0, 0, 0, 0, 0, 0, 0, 0, 0, 12), -1, "right");
        due(x.count(4), 0, "empty then");
        due(check(1, 2, 2, 0, 0, 0, 0, 0, 0, 0, 0, 0, 0, 24), -1, "right");
        due(check(1, 2, 2, 0, 0, 0, 0, 0, 0, 0, 0, 0, 0, 25), 11, "the last is not so");
        due(check(1, 2, 1, 0, 7), 0, "the first that is not so");
        due(check(1, 2, 2, 0, 256), 2, "four bytes each");
        due(check(1, 2, 2 + (1 << 24)), 0, "the highest byte counts");
        due(check(3, 2, 0, 0, 0), -1, "an ACT that THE SCORE has not");
        feed(1);
        due(x.check(-1, 0, 0), -2, "ACT -1");
        due(x.check(4, 0, 0), -2, "ACT 4");
        due(x.check(0, -1, 0), -2, "row -1");
        due(x.check(0, 8, 0), -2, "row 8");
        due(x.check(0, 0, -1), -2, "n -1");
        due(x.check(0, 0, 13), -2, "n 13");
        due(x.check(0, 0, 6), -2, "it has not so many");
        due(x.count(4), 20, "the tape stays");
        due(x.check(0, 0, 0), -1, "right, of none");
        due(x.count(4), 0, "empty then");
    }

    private void promise30Count() {
        about("promise 30");
        int[] others = {-1, 9, 14, 99, 196, 199, 296, 299, 340, 1000, Integer.MAX_VALUE, Integer.MIN_VALUE};
        for (int g = 0; g < 10; g++) {
            x.guest(g, 1);
        }
        for (int what : others) {
            due(x.count(what), -1, "count(" + what + ")");
        }
        x.sits(3, 2, 7, 11);
        due(x.count(323), 95, "GUEST 3 in ACT 2");
        due(x.count(332), 255, "GUEST 2 in ACT 3");
        due(x.count(339), 255, "GUEST 9 in ACT 3");
        due(x.count(8), 1023, "told GUESTS");
        x.slate(4, 0, 0, 0, 0);
        x.slate(1, 0, 0, 0, 0);
        x.nail(4, true);
        due(x.count(6), 18, "told SLATES");
        due(x.count(7), 16, "NAILED ones");
        x.seat(5, 5, true, 0);
        due(x.count(265), 1000, "an UMBRELLA");
        score("s1x1|s1x1/s1x1,s1x1");
        law("s(1=1);s(1=1)");
        x.feed(0, 0, 0, 0, 0);
        due(x.count(0), 4, "NOTES");
        due(x.count(1), 3, "BARS");
        due(x.count(2), 2, "ACTS");
        due(x.count(3), 2, "CLAUSES");
        due(x.count(4), 20, "bytes of the tape");
        due(x.count(5), 1, "X");
    }
}
