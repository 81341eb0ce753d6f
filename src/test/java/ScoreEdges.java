/** Terms: THE SCORE and its FAULTS. */
final class ScoreEdges extends Stage {
    private static final String SAMPLE = "s1x1,a22x3|t3x4/b04x9";

    private void read(String text, int want) {
        due(score(text), want, "\"" + text + "\"");
    }

    /** By a new object, so that all 256 bytes may be tried at one place. */
    private void readByte(String ahead, int sign, String behind, int want) {
        x = new RainOpera();
        due(score(ahead + (char) sign + behind), want, "\"" + ahead + "\" byte " + sign + " \"" + behind + "\"");
    }

    @Says(of = "Terms", text = "THE SCORE: a TEXT of at most 200 bytes,")
    void aTextHasAtMost200Bytes() {
        String longest = many("s47x9", 32, ",");
        feed(longest + ",");
        feed("s");
        due(x.score(201), NONE, "201 bytes of " + x.count(4));
        due(x.score(220), NONE, "220 bytes");
        due(x.count(4), 220, "the tape stays");
        due(x.score(200), -1192, "200 bytes are read");
        due(x.count(4), 0, "empty then");
        read(longest, 32);
    }

    @Says(of = "Terms", text = "THE SCORE: a TEXT of at most 200 bytes, no blanks")
    void aBlankCanStandNowhere() {
        for (int at = 0; at <= SAMPLE.length(); at++) {
            read(SAMPLE.substring(0, at) + " " + SAMPLE.substring(at), -1000 - at);
        }
        due(x.count(0), 0, "there is no SCORE by them");
    }

    @Says(of = "Terms", text = "no blanks (none at first): ACTS")
    void thereIsNoScoreAtFirst() {
        x.slate(0, 0, 0, 0, 47);
        due(x.count(0), 0, "NOTES");
        due(x.count(1), 0, "BARS");
        due(x.count(2), 0, "ACTS");
        due(x.note(0, 0), NONE, "NOTE 0");
        due(x.drops(0, 0), NONE, "NOTE 0");
        due(x.house(0, 0), NONE, "NOTE 0");
        due(x.house(1, 0), 0, "a SLATE");
        due(x.house(3, 0), 0, "an ACT");
        due(x.wet(0, 0, 4), 0, "a SEAT");
        due(x.perform(), NONE, "perform");
    }

    @Says(of = "Terms", text = "ACTS (4 at most) with a / between two,")
    void fourActsAtMost() {
        read("s1x1", 1);
        due(x.count(2), 1, "one ACT");
        read(many("s1x1", 4, "/"), 4);
        due(x.count(2), 4, "four ACTS");
        due(x.note(3, 4), 3, "the last ACT");
        read(many("s1x1", 5, "/"), -6019);
        due(x.count(2), 4, "four ACTS still");
        read("/s1x1", -1000);
        read("s1x1/", -1005);
        read("s1x1//s1x1", -1005);
    }

    @Says(of = "Terms", text = "of BARS (12 at most in all ACTS) with a | between two,")
    void twelveBarsAtMostInAllActs() {
        read(many("s1x1", 12, "|"), 12);
        due(x.count(1), 12, "twelve BARS in an ACT");
        due(x.note(11, 3), 11, "the last BAR");
        read(many("s1x1|s1x1|s1x1", 4, "/"), 12);
        due(x.count(1), 12, "twelve BARS in four ACTS");
        due(x.note(11, 3), 11, "the last BAR, through all ACTS");
        read(many("s1x1", 13, "|"), -6059);
        read(many("s1x1|s1x1|s1x1", 4, "/") + "|s1x1", -6059);
        read(many("s1x1", 12, "|") + "/s1x1", -6059);
        due(x.count(1), 12, "twelve BARS still");
        read("|s1x1", -1000);
        read("s1x1|", -1005);
        read("s1x1||s1x1", -1005);
    }

    @Says(of = "Terms", text = "of NOTES (32 at most in all) with a , between two:")
    void thirtyTwoNotesAtMostInAll() {
        read(many("s1x1", 32, ","), 32);
        due(x.count(0), 32, "32 NOTES in a BAR");
        due(x.note(31, 1), 1, "the last one");
        read(many(many("s1x1", 8, ","), 4, "/"), 32);
        due(x.note(31, 4), 3, "the last one of four ACTS");
        read(many("s1x1", 33, ","), -4160);
        read(many(many("s1x1", 8, ","), 4, "/") + ",s1x1", -4160);
        due(x.count(0), 32, "32 NOTES still");
        read(",s1x1", -1000);
        read("s1x1,", -1005);
        read("s1x1,,s1x1", -1005);
        read("s1x1s1x1", -1004);
    }

    @Says(of = "Terms", text = "a VOICE (s 0, a 1, t 2, b 3),")
    void fourVoices() {
        for (int sign = 0; sign < 256; sign++) {
            int voice = "satb".indexOf(sign);
            readByte("", sign, "1x1", voice >= 0 ? 1 : -1000);
            due(x.note(0, 0), voice >= 0 ? voice : NONE, "VOICE by byte " + sign);
        }
    }

    @Says(of = "Terms", text = "a PITCH (0 to 47, one or two digits), x,")
    void aPitchIs0To47() {
        for (int pitch = 0; pitch < 100; pitch++) {
            x = new RainOpera();
            read("s" + pitch + "x1", pitch <= 47 ? 1 : -3001);
            due(x.note(0, 1), pitch <= 47 ? pitch : NONE, "PITCH " + pitch);
        }
        read("s00x1", 1);
        due(x.note(0, 1), 0, "PITCH 00");
        read("s09x1", 1);
        due(x.note(0, 1), 9, "PITCH 09");
        read("s000x1", -1003);
        read("s047x1", -1003);
        read("sx1", -1001);
        for (int sign = 0; sign < 256; sign++) {
            boolean isDigit = sign >= '0' && sign <= '9';
            readByte("s", sign, "x1", isDigit ? 1 : -1001);
            readByte("s4", sign, "x1", sign >= '8' && isDigit ? -3001 : isDigit ? 1 : sign == 'x' ? -1003 : -1002);
            readByte("s1", sign, "1", sign == 'x' ? 1 : isDigit ? -1003 : -1002);
            readByte("s11", sign, "1", sign == 'x' ? 1 : -1003);
        }
    }

    @Says(of = "Terms", text = "a LENGTH (a digit, 1 to 9).")
    void aLengthIs1To9() {
        for (int sign = 0; sign < 256; sign++) {
            boolean can = sign >= '1' && sign <= '9';
            readByte("s1x", sign, "", can ? 1 : -1003);
            due(x.note(0, 2), can ? sign - '0' : NONE, "LENGTH by byte " + sign);
        }
        read("s1x10", -1004);
        read("s1x11", -1004);
    }

    @Says(of = "Terms", text = "1 to 9). FAULTS, the first from the left:")
    void theFirstFaultIsTold() {
        read("s48x0", -3001);
        read("s1y48x1", -1002);
        read("s1x0,s48x1", -1003);
        read("s48x1,q", -3001);
        read("s1x1,q,s48x1", -1005);
        read(many("s1x1", 4, "/") + "/s48x1", -6019);
        read(many("s1x1", 4, "/") + ",s48x1/s1x1", -3021);
        read(many("s1x1", 12, "|") + "|" + many("s1x1", 21, ","), -6059);
        read(many("s1x1", 12, "|") + "," + many("s1x1", 21, ","), -4160);
        read(many("s1x1", 32, ",") + ",s48x1/", -4160);
        read(many("s1x1", 32, ",") + "/s48x1", -4160);
    }

    @Says(of = "Terms", text = "FAULTS, the first from the left: 1 what can't stand there (the end, too); 3 a PITCH")
    void theEndCannotStandThere() {
        for (int end = 1; end <= SAMPLE.length(); end++) {
            x = new RainOpera();
            int notes = "|4|10|15|21|".contains("|" + end + "|") ? 1 + (end - 4) / 5 : 0;
            due(score(SAMPLE.substring(0, end)), notes > 0 ? notes : -1000 - end, "the end at " + end);
        }
    }

    @Says(of = "Terms", text = "1 what can't stand there (the end, too); 3 a PITCH above 47, at its first digit")
    void whatCannotStandBehindANote() {
        for (int sign = 0; sign < 256; sign++) {
            boolean goesOn = ",|/".indexOf(sign) >= 0;
            readByte("s1x1", sign, "", goesOn ? -1005 : -1004);
            readByte("s1x1", sign, "a2x2", goesOn ? 2 : -1004);
        }
    }

    @Says(of = "Terms", text = "3 a PITCH above 47, at its first digit (asked when its digits end, behind two at the latest);")
    void aPitchIsAskedWhenItsDigitsEnd() {
        read("s47", -1003);
        read("s48", -3001);
        read("s48x", -3001);
        read("s48z", -3001);
        read("s481", -3001);
        read("s471", -1003);
        read("s4", -1002);
        read("s9", -1002);
        read("s9z", -1002);
        read("s9x1", 1);
        read("s99x1", -3001);
        read("s1x1|b50x1", -3006);
    }

    @Says(of = "Terms", text = "4 a 33rd NOTE, at its VOICE (if that can stand there);")
    void a33rdNoteIsToldAtItsVoice() {
        String full = many("s1x1", 32, ",");
        for (char voice : "satb".toCharArray()) {
            read(full + "," + voice, -4160);
        }
        read(full + "|s1x1", -4160);
        read(full + "/s1x1", -4160);
        read(full + ",", -1160);
        read(full + ",x", -1160);
        read(full + ",,", -1160);
        read(full + "s", -1159);
        due(x.count(0), 0, "there is no SCORE by them");
        read(full, 32);
    }

    @Says(of = "Terms", text = "6 a fifth ACT or a 13th BAR, at the / or | ahead of it.")
    void aFifthActAnda13thBarAreToldAheadOfThem() {
        String acts = many("s1x1", 4, "/");
        String bars = many("s1x1", 12, "|");
        for (String behind : new String[] {"", "s1x1", "q", "/", "s48x1"}) {
            read(acts + "/" + behind, -6019);
            read(bars + "|" + behind, -6059);
            read(bars + "/" + behind, -6059);
        }
        read(acts + "|s1x1", 5);
        read(acts + "|" + many("s1x1", 8, "|"), 12);
        read(acts + "|" + many("s1x1", 8, "|") + "/", -6059);
        read(bars + ",s1x1", 13);
        read(many("s1x1", 11, "|") + "/s1x1", 12);
        read("s1x1/s1x1/s1x1/s1x/", -1018);
    }
}
