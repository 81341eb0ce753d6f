/** Terms: THE LAW, what it means and its FAULTS. */
final class LawEdges extends Stage {
    private static final String SAMPLE = "d1+[l-2]*3(!(v=1|p>2)&k<3);s(1=1);q15%x(o=0)";

    private void read(String text, int want) {
        due(law(text), want, "\"" + text + "\"");
    }

    /** By a new object, so that all 256 bytes may be tried at one place. */
    private void readByte(String ahead, int sign, String behind, int want) {
        x = new RainOpera();
        due(law(ahead + (char) sign + behind), want, "\"" + ahead + "\" byte " + sign + " \"" + behind + "\"");
    }

    /** A NOTE of VOICE 1, PITCH 20, LENGTH 3 and SLATE 0 above row 2, place 5. */
    private void open() {
        x = new RainOpera();
        score("a20x3");
        x.slate(0, 2, 5, 0, 47);
    }

    private void drops(String text, int want) {
        law(text);
        due(x.drops(0, 0), want, text);
    }

    private void amount(String e, int want) {
        drops("d" + e + "(1=1)", want);
    }

    private void holds(String c, boolean want) {
        drops("d1(" + c + ")", want ? 1 : 0);
    }

    // ---- the text

    @Says(of = "Terms", text = "THE LAW: a TEXT of at most 200 bytes,")
    void aTextHasAtMost200Bytes() {
        String just = "d" + many("0", 96, "+") + "+10(1=1)";
        due(just.length(), 200, "the text's own length");
        read(just, 1);
        due(x.count(3), 1, "CLAUSES");
        feed(just);
        feed(0);
        due(x.law(201), NONE, "201 bytes of " + x.count(4));
        due(x.law(220), NONE, "220 bytes");
        due(x.count(4), 220, "the tape stays");
        due(x.law(200), 1, "200 bytes");
        score("s1x1");
        x.slate(0, 0, 0, 0, 47);
        due(x.drops(0, 0), 10, "all of it is reckoned");
    }

    @Says(of = "Terms", text = "THE LAW: a TEXT of at most 200 bytes, no blanks")
    void aBlankCanStandNowhere() {
        for (int at = 0; at <= SAMPLE.length(); at++) {
            read(SAMPLE.substring(0, at) + " " + SAMPLE.substring(at), -1000 - at);
        }
        due(x.count(3), 0, "there is no LAW by them");
        read(SAMPLE, 3);
    }

    @Says(of = "Terms", text = "no blanks (none at first): CLAUSES")
    void thereIsNoLawAtFirst() {
        open();
        x.guest(0, 1);
        x.sits(0, 0, 0, 0);
        due(x.count(3), 0, "CLAUSES");
        due(x.drops(0, 0), 0, "DROPS");
        due(x.paid(4), 0, "PAID");
        due(x.perform(), 0, "an evening");
        due(x.count(100), 0, "MOULD");
    }

    @Says(of = "Terms", text = "CLAUSES (14 at most) with a ; (59) between two:")
    void fourteenClausesAtMost() {
        read("s(1=1)", 1);
        read(many("s(1=1)", 14, ";"), 14);
        due(x.count(3), 14, "CLAUSES");
        read(many("s(1=1)", 15, ";"), -4098);
        due(x.count(3), 14, "14 still");
        read(";s(1=1)", -1000);
        read("s(1=1);", -1007);
        read("s(1=1);;s(1=1)", -1007);
        for (int sign = 0; sign < 256; sign++) {
            readByte("s(1=1)", sign, "q1(1=1)", sign == 59 ? 2 : -1006);
        }
        open();
        drops(many("s(1=2)", 13, ";") + ";d7(1=1)", 7);
        due(x.wet(2, 5, 0), 7, "all 14 are asked");
        law(many("s(1=2)", 12, ";") + ";s(1=1);d7(1=1)");
        due(x.wet(2, 5, 1), 7, "all 14 are asked");
        law(many("s(1=2)", 12, ";") + ";d7(1=1);s(1=1)");
        due(x.wet(2, 5, 1), 7, "all 14 are asked");
        law("d7(1=1)");
        due(x.wet(2, 5, 1), 0, "no CLAUSES of the one before");
    }

    @Says(of = "Terms", text = "d, E and (C): how many DROPS come by a NOTE through a SLATE (0 to 99);")
    void dropsAre0To99() {
        open();
        amount("0", 0);
        amount("1", 1);
        amount("99", 99);
        amount("100", 99);
        amount("99999", 99);
        amount("0-1", 0);
        amount("65536*32767", 99);
        amount("65536*32768", 0);
    }

    @Says(of = "Terms", text = "s and (C): they are SNOW (any s will do);")
    void anySWillDo() {
        open();
        String[] snow = {"s(1=1)", "s(1=2);s(1=1)", "s(1=1);s(1=2)", "s(1/0=0);s(1=2);s(1=1)"};
        for (String s : snow) {
            law("d5(1=1);" + s);
            due(x.wet(2, 5, 0), 0, s + ": not now");
            due(x.wet(2, 5, 1), 5, s + ": an ACT late");
            law(s + ";d5(1=1)");
            due(x.wet(2, 5, 1), 5, s + " ahead of d");
        }
        for (String s : new String[] {"s(1=2)", "s(1=2);s(1=2)", "s(1/0=0)"}) {
            law("d5(1=1);" + s);
            due(x.wet(2, 5, 0), 5, s + ": now");
            due(x.wet(2, 5, 1), 0, s + ": not late");
        }
    }

    @Says(of = "Terms", text = "m, E and (C): by how much MOULD of a SEAT grows in an evening (0 to 9);")
    void mouldGrowsBy0To9() {
        open();
        law("m0(x=0);m1(x=1);m9(x=2);m10(x=3);m0-1(x=4);m99999(x=5);m65536*32768(x=6)");
        x.perform();
        int[] want = {0, 1, 9, 9, 0, 9, 0, 0};
        for (int s = 0; s < want.length; s++) {
            due(x.count(100 + s), want[s], "MOULD of SEAT " + s);
        }
        law("m0-1(1=1)");
        x.perform();
        due(x.count(102), 9, "it never gets less");
    }

    @Says(of = "Terms", text = "q, E and (C): what a SEAT is paid for an ACT (0 to 999):")
    void aSeatIsPaid0To999() {
        open();
        x.guest(0, 1);
        x.sits(0, 0, 0, 0);
        String[] e = {"0", "1", "999", "1000", "99999", "0-1", "65536*32767", "65536*32768"};
        int[] want = {0, 1, 999, 999, 999, 0, 999, 0};
        for (int j = 0; j < e.length; j++) {
            law("q" + e[j] + "(1=1)");
            due(x.paid(0), want[j], "q" + e[j]);
        }
    }

    @Says(of = "Terms", text = "of d, m, q the E of the first CLAUSE whose C holds (beyond its bounds the bound; none: 0).")
    void theFirstClauseThatHoldsIsTaken() {
        open();
        x.guest(0, 1);
        x.sits(0, 0, 0, 0);
        law("d1(1=2);m1(1=2);q1(1=2);d2(1=1);m3(1=1);q4(1=1);d5(1=1);m6(1=1);q7(1=1)");
        due(x.drops(0, 0), 2, "d");
        due(x.paid(0), 4, "q");
        x.perform();
        due(x.count(100), 3, "m");
        drops("d0-5(1=1);d7(1=1)", 0);
        drops("d100(1=1);d7(1=1)", 99);
        drops("d1/0(1=1);d7(1=1)", 0);
        law("d1(1=2);m1(1=2);q1(1=2);s(1=1)");
        due(x.drops(0, 0), 0, "d: none");
        due(x.paid(0), 0, "q: none");
        x.perform();
        due(x.count(100), 3, "m: none");
    }

    // ---- what holds

    @Says(of = "Terms", text = "C: PARTS with a | between two, one of which must hold;")
    void onePartMustHold() {
        open();
        holds("1=1", true);
        holds("1=2|1=1", true);
        holds("1=1|1=2", true);
        holds("1=2|1=2", false);
        holds("1=2|1=2|1=2|1=1", true);
        holds(many("1=2", 48, "|"), false);
        holds(many("1=2", 47, "|") + "|1=1", true);
        read("d1(|1=1)", -1003);
        read("d1(1=1|)", -1007);
    }

    @Says(of = "Terms", text = "a PART: PIECES with an & between two, all of which must;")
    void allPiecesMustHold() {
        open();
        holds("1=1&1=1", true);
        holds("1=2&1=1", false);
        holds("1=1&1=2", false);
        holds(many("1=1", 48, "&"), true);
        holds(many("1=1", 47, "&") + "&1=2", false);
        holds("1=1|1=1&1=2", true);
        holds("1=2&1=1|1=1", true);
        holds("1=2&1=2|1=1&1=2", false);
        read("d1(&1=1)", -1003);
        read("d1(1=1&)", -1007);
    }

    @Says(of = "Terms", text = "a PIECE: !PIECE, (C), or E, one of < > =, and E.")
    void whatAPieceIs() {
        open();
        holds("1<2", true);
        holds("2<2", false);
        holds("3<2", false);
        holds("3>2", true);
        holds("2>2", false);
        holds("1>2", false);
        holds("2=2", true);
        holds("1=2", false);
        holds("!1=1", false);
        holds("!1=2", true);
        holds("!!!!!1=2", true);
        holds("!!!!1=2", false);
        holds("!1=2&1=2", false);
        holds("!1=1|1=1", true);
        holds("(1=1|1=1)&1=2", false);
        holds("!(1=2&1=2)", true);
        holds("!(1=1|1=2)", false);
        for (int sign = 0; sign < 256; sign++) {
            boolean goesOn = "<>=".indexOf(sign) >= 0;
            boolean isDigit = sign >= '0' && sign <= '9';
            boolean isSum = "+-*/%".indexOf(sign) >= 0;
            readByte("s(v", sign, "1)", goesOn ? 1 : isSum ? -1005 : -1003);
            readByte("s(1", sign, "1)", goesOn ? 1 : isSum || isDigit ? -1005 : -1003);
            readByte("s((1=1)", sign, "1=1)", sign == '&' || sign == '|' ? 1 : sign == ')' ? -1008 : -1007);
        }
    }

    // ---- what is reckoned

    @Says(of = "Terms", text = "E: TERMS with + or - between two; a TERM: FACTORS with one of * / % between two; from the left on;")
    void fromTheLeftOn() {
        open();
        amount("20-7-2", 11);
        amount("20-7+2", 15);
        amount("90/4/5", 4);
        amount("60/4*5", 75);
        amount("80/[4*5]", 4);
        amount("90%50/7*2", 10);
        amount("2*7%5", 4);
        amount("2+3*4", 14);
        amount("2*3+4*5", 26);
        amount("50-2*3-4", 40);
        amount("50-10%4", 48);
        amount("9-8/2", 5);
        amount("7/1", 7);
        amount("7%1+3", 3);
    }

    @Says(of = "Terms", text = "a FACTOR: [E], a number of one to five digits, or a letter:")
    void whatAFactorIs() {
        open();
        amount("[7]", 7);
        amount("2*[3+4]", 14);
        amount("[3+4]*2", 14);
        amount("[[[[[[7]]]]]]", 7);
        amount("0", 0);
        amount("00007", 7);
        amount("99999/1111", 90);
        amount("99999%100", 99);
        amount("99999-99950", 49);
        amount("l", 3);
        for (int sign = 0; sign < 256; sign++) {
            boolean isDigit = sign >= '0' && sign <= '9';
            boolean isLetter = "vplibkaryxow".indexOf(sign) >= 0;
            readByte("d", sign, "(1=1)", isDigit || isLetter ? 1 : sign == '[' ? -1002 : -1001);
            readByte("d1+", sign, "(1=1)", isDigit || isLetter ? 1 : sign == '[' ? -1004 : -1003);
        }
    }

    /** Of the last of 32 NOTES and of the first, by d and by s. */
    private void letterInDropsAndSnow(String letter, int atFirst, int atLast) {
        law("d" + letter + "+1(1=1);q1(1=1);m0(1=1)");
        due(x.drops(0, 0), atFirst + 1, "d, letter " + letter + " of the first NOTE");
        due(x.drops(31, 15), atLast + 1, "d, letter " + letter + " of the last NOTE");
        law("d9(1=1);s(" + letter + "=" + atFirst + "&k=0);s(" + letter + "=" + atLast + "&k=15)");
        due(x.wet(0, 0, 0), 0, "s, letter " + letter + " of the first NOTE: not now");
        due(x.wet(0, 0, 1), 9, "s, letter " + letter + " of the first NOTE: SNOW");
        due(x.wet(7, 11, 2), 0, "s, letter " + letter + " of the last NOTE: not now");
        due(x.wet(7, 11, 3), 9, "s, letter " + letter + " of the last NOTE: SNOW");
    }

    private void openByTwoNotes() {
        score("a20x3|" + many("s9x1", 9, "|") + "/" + many("s9x1", 12, ",") + "/" + many("s9x1", 9, ",") + ",b47x9");
        x.slate(0, 0, 0, 20, 20);
        x.slate(15, 7, 11, 47, 47);
        x.rain(0, 4);
        x.rain(1, 5);
        x.rain(2, 9);
        law("m5(y=0&x=0);m7(y=7&x=11)");
        x.perform();
    }

    @Says(of = "Terms", text = "in d, s: v VOICE, p PITCH, l LENGTH, i the NOTE's number, b its BAR's "
            + "(both from 0 on, through all ACTS), k the SLATE's;")
    void lettersOfNoteAndSlate() {
        openByTwoNotes();
        letterInDropsAndSnow("v", 1, 3);
        letterInDropsAndSnow("p", 20, 47);
        letterInDropsAndSnow("l", 3, 9);
        letterInDropsAndSnow("i", 0, 31);
        letterInDropsAndSnow("b", 0, 11);
        letterInDropsAndSnow("k", 0, 15);
    }

    @Says(of = "Terms", text = "a the ACT, r its RAIN (in m 0);")
    void lettersOfTheAct() {
        openByTwoNotes();
        letterInDropsAndSnow("a", 0, 2);
        letterInDropsAndSnow("r", 4, 9);
        x.rain(3, 7);
        x.guest(0, 1);
        x.sits(0, 3, 0, 1);
        x.sits(0, 2, 0, 1);
        law("q10*a+r(1=1);m1+a+r(1=1)");
        due(x.paid(3), 37, "q in ACT 3");
        due(x.paid(2), 29, "q in ACT 2");
        x.perform();
        due(x.count(101), 1, "m, where both are 0");
    }

    @Says(of = "Terms", text = "y, x row and place of the SEAT (of d, s: below the SLATE), o its MOULD;")
    void lettersOfTheSeat() {
        openByTwoNotes();
        letterInDropsAndSnow("y", 0, 7);
        letterInDropsAndSnow("x", 0, 11);
        letterInDropsAndSnow("o", 5, 7);
        x.guest(0, 1);
        x.sits(0, 3, 7, 11);
        law("q100*y+10*x+o(1=1);m2(y=7&x=11&o=7)");
        due(x.paid(3), 817, "q of SEAT 95");
        x.perform();
        due(x.count(195), 9, "m of SEAT 95");
        x.perform();
        due(x.count(195), 9, "m of SEAT 95 with another MOULD");
    }

    @Says(of = "Terms", text = "in m: w how much it was WET in that evening (where they are not told they are 0).")
    void lettersThatAreNotToldAre0() {
        open();
        x.rain(0, 9);
        x.seat(2, 5, false, 1);
        law("d3(1=1);mw(1=1)");
        x.perform();
        due(x.count(129), 2, "w of the WET SEAT, its BUCKET left out");
        due(x.count(130), 0, "w of a dry one");
        amount("w+1", 1);
        law("d3(1=1);m1+v+p+l+i+b+k+a+r(y=2);q1+v+p+l+i+b+k+w(1=1)");
        x.guest(0, 1);
        x.sits(0, 1, 2, 6);
        due(x.drops(0, 0), 3, "the NOTE's letters are told");
        due(x.paid(1), 1, "in q they are 0");
        x.perform();
        due(x.count(130), 1, "in m they are 0");
        score("a20x3/a20x3");
        law("d3(1=1);mw(y=2);s(a=1)");
        x.seat(2, 5, false, 0);
        x.perform();
        due(x.count(129), 3 + 6, "w in all ACTS together, SNOW too");
        x.slate(0, 7, 11, 0, 47);
        law("d3+w(1=1);m1(w=6);qw+1(1=1)");
        due(x.perform(), 6, "in d it is 0");
        due(x.perform(), 6, "in d it is 0 behind m, too");
        due(x.count(195), 2, "in m it is told each time");
        due(x.paid(1), 1, "in q it is 0 behind m, too");
    }

    @Says(of = "Terms", text = "All is reckoned with 32 bits, as the machine does;")
    void reckonedWith32Bits() {
        open();
        holds("65536*32768<0", true);
        holds("65536*32767+65535>0", true);
        holds("65536*32767+65535+1<0", true);
        holds("65536*32767+65535+1=65536*32768", true);
        holds("65536*32768-1=65536*32767+65535", true);
        holds("65536*32768-1>0", true);
        holds("0-65536*32768<0", true);
        holds("65536*65536=0", true);
        holds("99999*99999=65536*21512+54977", true);
        holds("[65536*32768]/[0-1]=65536*32768", true);
        holds("[65536*32768]%[0-1]=0", true);
        holds("[0-7]/2=0-3", true);
        holds("7/[0-2]=0-3", true);
        holds("[0-7]%2=0-1", true);
        holds("7%[0-2]=1", true);
        holds("65536*32768<65536*32767", true);
        amount("65536*65536+5", 5);
        amount("99999*99999", 99);
        amount("50000*50000", 0);
    }

    @Says(of = "Terms", text = "what is divided by 0 is REFUSED: then a C does not hold, an E is 0.")
    void dividedBy0IsRefused() {
        open();
        for (String by : new String[] {"/0", "%0", "/[1-1]", "%[l-3]", "/[0*5]"}) {
            drops("d5" + by + "(1=1);d7(1=1)", 0);
            drops("d5+5" + by + "(1=1);d7(1=1)", 0);
            drops("d5" + by + "+5(1=1);d7(1=1)", 0);
            drops("d5+[1+5" + by + "](1=1);d7(1=1)", 0);
            drops("d5(1" + by + "=0);d7(1=1)", 7);
            drops("d5(0=1" + by + ");d7(1=1)", 7);
            drops("d5(1" + by + "<1);d7(1=1)", 7);
            drops("d5(1" + by + ">0);d7(1=1)", 7);
            drops("d5(!1" + by + "=0);d7(1=1)", 7);
            drops("d5(!1" + by + "=1);d7(1=1)", 7);
            drops("d5(!(1" + by + "=1));d7(1=1)", 7);
            drops("d5(0" + by + "=0);d7(1=1)", 7);
        }
        amount("0/1+5", 5);
        amount("0%1+5", 5);
        drops("d5(0/1=0);d7(1=1)", 5);
    }

    @Says(of = "Terms", text = "Of a C as much is asked, from the left, as matters.")
    void noMoreIsAskedThanMatters() {
        open();
        holds("1=1|1/0=0", true);
        holds("1/0=0|1=1", false);
        holds("1=2|1/0=0", false);
        holds("1=2|1/0=0|1=1", false);
        holds("1=2&1/0=0", false);
        holds("1=2&1/0=0|1=1", true);
        holds("1=1&1/0=0|1=1", false);
        holds("(1=1|1/0=0)&1=1", true);
        holds("(1=2&1/0=0)|1=1", true);
        holds("!(1=2&1/0=0)", true);
        holds("!(1=1|1/0=0)|1=1", true);
        holds("!(1=1&1/0=0)", false);
        holds("1=1|1=1&1/0=0", true);
        holds("1=2&1=1&1/0=0|1=1", true);
        holds("1=2&(1/0=0|1=1)|1=1", true);
        holds("1=2&1=1/0|!1=1/0", false);
    }

    // ---- faults

    @Says(of = "Terms", text = "as matters. FAULTS, the first from the left:")
    void theFirstFaultIsTold() {
        read("d123456z", -2006);
        read("dz123456", -1001);
        read("s(((((((z", -5007);
        read("s((((((z(", -1007);
        read("s(123456=((((((((", -2007);
        read("s(1=((((((((123456", -1004);
        read("s(!!!!!!123456", -5007);
        read("s(1=1);s(1=123456);z", -2016);
        read(many("s(1=1)", 14, ";") + ";d123456", -4098);
        read(many("s(1=1)", 13, ";") + ";d123456;s(1=1)", -2097);
    }

    @Says(of = "Terms", text = "as matters. FAULTS, the first from the left: 1 what can't stand there (the end, too); 2 a sixth")
    void theEndCannotStandThere() {
        for (int end = 1; end <= SAMPLE.length(); end++) {
            x = new RainOpera();
            int clauses = end == 26 ? 1 : end == 33 ? 2 : end == SAMPLE.length() ? 3 : 0;
            due(law(SAMPLE.substring(0, end)), clauses > 0 ? clauses : -1000 - end, "the end at " + end);
        }
    }

    @Says(of = "Terms", text = "1 what can't stand there (the end, too); 2 a sixth digit, at it;")
    void whatCannotStandThere() {
        for (int sign = 0; sign < 256; sign++) {
            boolean goesOn = "+-*/%0123456789".indexOf(sign) >= 0;
            readByte("", sign, "", "dsmq".indexOf(sign) >= 0 ? -1001 : -1000);
            readByte("s", sign, "1=1)", sign == '(' ? 1 : -1001);
            readByte("s(1=1", sign, "", sign == ')' ? 1 : goesOn || sign == '&' || sign == '|' ? -1006 : -1005);
            readByte("d[1", sign, "(1=1)", sign == ']' ? 1 : goesOn ? -1004 : -1003);
        }
        read("s1(1=1)", -1001);
        read("d(1=1)", -1001);
        read("d-1(1=1)", -1001);
        read("d1()", -1003);
        read("d1(1)", -1004);
        read("d1(1=1=1)", -1006);
        read("d1(1<=1)", -1005);
        read("d1((1)=1)", -1005);
        read("d1([1=1])", -1005);
        read("d(1)(1=1)", -1001);
        read("d1(1=1))", -1007);
        read("d1(1=!1)", -1005);
        read("d1(1=(1))", -1005);
        read("d[](1=1)", -1002);
        read("d1v(1=1)", -1002);
        read("dvv(1=1)", -1002);
        read("dv1(1=1)", -1002);
    }

    @Says(of = "Terms", text = "2 a sixth digit, at it;")
    void aSixthDigitIsToldAtIt() {
        read("d12345(1=1)", 1);
        read("d123456(1=1)", -2006);
        read("d1234567(1=1)", -2006);
        read("d000000(1=1)", -2006);
        read("d123456", -2006);
        read("d12345", -1006);
        read("d12345v(1=1)", -1006);
        read("s(1=000001)", -2009);
        read("s([99999*100000]=1)", -2014);
        read("d12345+12345(12345=12345)", 1);
    }

    @Says(of = "Terms", text = "4 a 15th CLAUSE, at its letter (if that can stand there);")
    void a15thClauseIsToldAtItsLetter() {
        String full = many("s(1=1)", 14, ";");
        for (char letter : "dsmq".toCharArray()) {
            read(full + ";" + letter, -4098);
        }
        read(full + ";d1(1=1)", -4098);
        read(full + ";", -1098);
        read(full + ";x", -1098);
        read(full + ";;", -1098);
        read(full + "s", -1097);
        due(x.count(3), 0, "there is no LAW by them");
        read(full, 14);
    }

    @Says(of = "Terms", text = "5 a seventh of ( [ ! that are open in one another, at it")
    void aSeventhThatIsOpenIsToldAtIt() {
        read("s((((((1=1))))))", 1);
        read("s(((((((1=1)))))))", -5007);
        read("s(((((([1]=1))))))", -5007);
        read("s((((((!1=1))))))", -5007);
        read("s(((((([", -5007);
        read("s(!(!(![1]=1)))", -5007);
        read("s(!(!(!1=1)))", 1);
        read("s(!(!([1]=1)))", 1);
        read("s((((([[1]]=1)))))", -5007);
        read("s((((([1]=1)))))", 1);
        read("s((((1=[[[1]]]))))", -5009);
        read("s((((1=[[1]]))))", 1);
        read("s((((((1+(", -1009);
        read("s((((((1+!", -1009);
        read("s((((((1=(", -1009);
        read("s((((((1=[", -5009);
        read("s([1]+[1]+[1]+[1]+[1]+[1]+[1]=1)", 1);
        read("s((1=1)&(1=1)&(1=1)&(1=1)&(1=1)&(1=1)&(1=1))", 1);
        read("s((((((1=1)))))&(((((1=1))))))", 1);
        read("s((((((1=1)))))&((((((1=1)))))))", -5021);
    }

    @Says(of = "Terms", text = "(the ( of the CLAUSE counts;")
    void theBracketOfTheClauseCounts() {
        read("s(!!!!!1=1)", 1);
        read("s(!!!!!!1=1)", -5007);
        read("s([[[[[1]]]]]=1)", 1);
        read("s([[[[[[1]]]]]]=1)", -5007);
        read("s(1=1);s(((((((1=1)))))))", -5014);
        read(many("s((((((1=1))))))", 3, ";"), 3);
    }

    @Says(of = "Terms", text = "a ! is open till its PIECE ends;")
    void aNotIsOpenTillItsPieceEnds() {
        read("s(!!!!![1]=1)", -5007);
        read("s(!!!!!1=[1])", -5009);
        read("s(!!!!!1=1+2*[1])", -5013);
        read("s(!!!!!(1=1))", -5007);
        read("s(!!!!(1=1))", 1);
        read("s(!!!!(!1=1))", -5007);
        read("s(!!!(![1]=1))", -5007);
        read("s(!!!(!1=1))", 1);
        read("s(!!!!!1=1&!!!!!1=1)", 1);
        read("s(!!!!!1=1|!!!!!1=1)", 1);
        read("s(!!!!!1=1&!!!!!!1=1)", -5016);
        read("s(!1=1&!1=1&!1=1&!1=1&!1=1&!1=1&!1=1)", 1);
        read("s(!(!1=1)&((((1=1)))))", 1);
        read("s(!(1=1)&(((((1=1))))))", 1);
        read("s(!(1=1)&((((((1=1)))))))", -5014);
        read("s(!!(!1=1|[1]=1)&[[[[[1]]]]]=1)", 1);
        read("s(!!!(!1=1|[1]=1)&[[[[[[1]]]]]]=1)", -5023);
    }

    @Says(of = "Terms", text = "the E of a CLAUSE stands ahead of it).")
    void theAmountOfAClauseStandsAheadOfItsBracket() {
        read("d[[[[[[1]]]]]](1=1)", 1);
        read("d[[[[[[[1]]]]]]](1=1)", -5007);
        read("d[[[[[[1]]]]]](!!!!!1=1)", 1);
        read("d[[[[[[1]]]]]](!!!!!!1=1)", -5020);
        read("d[1]+[[[[[[1]]]]]](1=1)", 1);
        read("s(1=1);q[[[[[[1]]]]]](1=1)", 1 + 1);
    }
}
