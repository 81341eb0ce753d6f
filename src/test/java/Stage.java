/** A theatre to ask, ways to feed it, and a tally of the answers that were not as due. */
abstract class Stage {
    static final int NONE = RainOpera.NONE;
    static final int MOST = Integer.MAX_VALUE;
    static final int LEAST = Integer.MIN_VALUE;

    private static int wrong;
    private static int asked;
    /** What of the document is being tested; it is told with every wrong answer. */
    private static String about = "";

    RainOpera x = new RainOpera();

    static void about(String text) {
        about = text;
    }

    static void due(long got, long want, String what) {
        asked++;
        if (got != want) {
            wrong++;
            System.out.println(about + ": " + what + " answered " + got + ", due is " + want);
        }
    }

    static void due(boolean got, boolean want, String what) {
        due(got ? 1 : 0, want ? 1 : 0, what);
    }

    static void fail(String what) {
        wrong++;
        System.out.println(about + ": " + what);
    }

    static void endWithTally() {
        System.out.println(asked + " answers asked, " + wrong + " not as due");
        if (wrong != 0) {
            System.exit(1);
        }
    }

    // ---- what is fed

    /** Zeros fill up the last twenty bytes. */
    void feed(int... bytes) {
        for (int at = 0; at < bytes.length; at += 20) {
            int[] words = new int[5];
            for (int j = 0; j < 20; j++) {
                words[j / 4] = words[j / 4] << 8 | (at + j < bytes.length ? bytes[at + j] : 0);
            }
            x.feed(words[0], words[1], words[2], words[3], words[4]);
        }
    }

    void feed(String text) {
        feed(text.chars().toArray());
    }

    int score(String text) {
        feed(text);
        return x.score(text.length());
    }

    int law(String text) {
        feed(text);
        return x.law(text.length());
    }

    int seated(int act, int guests, int what, int... seats) {
        feed(seats);
        return x.seated(act, guests, seats.length, what);
    }

    int sung(int act, int what, int... pairs) {
        feed(pairs);
        return x.sung(act, pairs.length / 2, what);
    }

    int check(int act, int row, int... numbers) {
        feedNumbers(numbers);
        return x.check(act, row, numbers.length);
    }

    void feedNumbers(int... numbers) {
        int[] bytes = new int[4 * numbers.length];
        for (int j = 0; j < bytes.length; j++) {
            bytes[j] = numbers[j / 4] >>> (24 - 8 * (j % 4)) & 255;
        }
        feed(bytes);
    }

    void emptyTape() {
        x.check(0, 0, 0);
    }

    static String many(String text, int n, String between) {
        StringBuilder all = new StringBuilder(text);
        for (int i = 1; i < n; i++) {
            all.append(between).append(text);
        }
        return all.toString();
    }
}
