/** Texts of scores and laws with every byte put in every place, on RainOpera and on PlainOpera: all answers alike. */
public final class TextSweepTest {
    private static final String[] SCORES = {"s1x1,a22x3|t3x4/b47x9", "b0x9/t48x1", many("s1x1", 4, "/"),
        many("s1x1", 12, "|"), many("s1x1", 32, ",")};
    private static final String[] LAWS = {"d1+[l-2]*3(!(v=1|p>2)&k<3);s(1=1);q15%x(o=0)", "s(!!!!!1=12345)",
        "d[[[[[[1]]]]]]/2([[[[[w]]]]]>1)", "m0(((((!i=b)))))", "s((!(!1=1)&(((1=1))))|[1]=[[2]])",
        many("s(1=1)", 14, ";")};
    /** So that no object is used for more calls than it promises; a text takes eleven at most. */
    private static final int TEXTS_OF_AN_OBJECT = 46;

    private RainOpera opera;
    private PlainOpera plain;
    private int texts;
    private int wrong;

    public static void main(String[] args) {
        TextSweepTest test = new TextSweepTest();
        for (String text : SCORES) {
            test.sweep(text, false);
        }
        for (String text : LAWS) {
            test.sweep(text, true);
        }
        System.out.println(test.texts + " texts read, " + test.wrong + " not alike");
        if (test.wrong != 0) {
            System.exit(1);
        }
    }

    private static String many(String text, int n, String between) {
        return Stage.many(text, n, between);
    }

    private void sweep(String text, boolean isLaw) {
        read(text, isLaw);
        for (int at = 0; at <= text.length(); at++) {
            String ahead = text.substring(0, at);
            for (int sign = 0; sign < 256; sign++) {
                read(ahead + (char) sign + text.substring(at), isLaw);
                if (at < text.length()) {
                    read(ahead + (char) sign + text.substring(at + 1), isLaw);
                }
            }
            if (at > 0) {
                read(ahead, isLaw);
                read(text.substring(0, at - 1) + text.substring(at), isLaw);
            }
        }
    }

    private void read(String text, boolean isLaw) {
        if (texts % TEXTS_OF_AN_OBJECT == 0) {
            opera = new RainOpera();
            plain = new PlainOpera();
        }
        texts++;
        int n = Math.min(200, text.length());
        if (n == 0) {
            return;
        }
        for (int at = 0; at < n; at += 20) {
            int[] words = new int[5];
            for (int j = 0; j < 20; j++) {
                words[j / 4] = words[j / 4] << 8 | (at + j < text.length() ? text.charAt(at + j) : 0);
            }
            opera.feed(words[0], words[1], words[2], words[3], words[4]);
            plain.feed(words[0], words[1], words[2], words[3], words[4]);
        }
        int got = isLaw ? opera.law(n) : opera.score(n);
        int want = isLaw ? plain.law(n) : plain.score(n);
        if (got != want) {
            wrong++;
            System.out.println((isLaw ? "law " : "score ") + text + " answered " + got + ", due is " + want);
        }
    }
}
