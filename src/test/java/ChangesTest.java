import java.util.ArrayList;
import java.util.LinkedHashMap;
import java.util.List;
import java.util.Map;

/**
 * How the calls hang together: each call that changes something, behind each other one, with all that can be asked
 * asked ahead of it and behind it, on RainOpera and on PlainOpera. What is refused must leave every answer as it was.
 */
public final class ChangesTest {
    private static final String LAW = "dl+r+o(1=1);s(v=3);m1+w/4(w>0);q20+r+o*2(1=1)";
    private static final String SCORE = "s10x3,b12x5|t14x4/a20x2|b11x7,s22x1/t13x6";

    private interface Change {
        void on(ChangesTest scene);
    }

    private final BothOperas both = new BothOperas();

    public static void main(String[] args) {
        Map<String, Change> changes = changes();
        Map<String, Change> refusals = refusals();
        Map<String, Change> all = new LinkedHashMap<>(changes);
        all.putAll(refusals);
        all.put("nothing", scene -> { });
        all.put("keep", scene -> scene.call("keep"));
        int wrong = 0;
        for (String first : all.keySet()) {
            for (String second : all.keySet()) {
                ChangesTest scene = new ChangesTest();
                boolean isSeen = scene.play(all.get(first), all.get(second));
                boolean isDue = changes.containsKey(second);
                boolean isOdd = first.equals("nothing") && isSeen != isDue;
                if (scene.both.isWrong() || isOdd) {
                    wrong++;
                    System.out.println(first + ", then " + second + (isOdd ? ": seen " + isSeen + ", due " + isDue : ":"));
                    scene.both.tell();
                }
            }
        }
        System.out.println(all.size() * all.size() + " pairs of changes, " + wrong + " not as due");
        if (wrong != 0) {
            System.exit(1);
        }
    }

    private static Map<String, Change> changes() {
        Map<String, Change> all = new LinkedHashMap<>();
        all.put("seat: an UMBRELLA", scene -> scene.call("seat", 0, 2, 1, 2));
        all.put("seat: no UMBRELLA", scene -> scene.call("seat", 0, 3, 0, 0));
        all.put("seat: a BUCKET", scene -> scene.call("seat", 0, 2, 0, 5));
        all.put("slate: one more", scene -> scene.call("slate", 3, 0, 1, 10, 12));
        all.put("slate: another one", scene -> scene.call("slate", 1, 0, 4, 14, 20));
        all.put("slate: the NAILED one", scene -> scene.call("slate", 2, 0, 4, 12, 14));
        all.put("nail", scene -> scene.call("nail", 0, 1));
        all.put("nail: no more", scene -> scene.call("nail", 2, 0));
        all.put("rain", scene -> scene.call("rain", 0, 7));
        all.put("guest: one more", scene -> scene.call("guest", 3, 8));
        all.put("guest: another one", scene -> scene.call("guest", 0, 9));
        all.put("sits", scene -> scene.call("sits", 1, 0, 0, 5));
        all.put("sits: out", scene -> scene.call("sits", 0, 0, -1, 0));
        all.put("score", scene -> scene.text("score", "t12x9/s11x2|b13x4"));
        all.put("law", scene -> scene.text("law", "d30-l*2(!k=1);m3(1=1);q7(a=0)"));
        all.put("seated", scene -> {
            scene.feed(5, 2);
            scene.call("seated", 0, 3, 2, 11);
        });
        all.put("perform", scene -> scene.call("perform"));
        all.put("seed", scene -> scene.call("seed", 65535));
        all.put("draw", scene -> scene.call("draw"));
        all.put("undo", scene -> scene.call("undo"));
        return all;
    }

    private static Map<String, Change> refusals() {
        Map<String, Change> all = new LinkedHashMap<>();
        all.put("no such SEAT", scene -> scene.call("seat", 0, 12, 1, 9));
        all.put("no such BUCKET", scene -> scene.call("seat", 0, 2, 1, 100));
        all.put("no such SLATE", scene -> scene.call("slate", 0, 0, 5, 13, 12));
        all.put("no such PITCH", scene -> scene.call("slate", 0, 0, 5, 0, 48));
        all.put("a SLATE that is so", scene -> scene.call("nail", 0, 0));
        all.put("an untold SLATE", scene -> scene.call("nail", 9, 1));
        all.put("no such RAIN", scene -> scene.call("rain", 0, 10));
        all.put("no such RANK", scene -> scene.call("guest", 0, 100));
        all.put("another GUEST's SEAT", scene -> scene.call("sits", 1, 0, 0, 2));
        all.put("an untold GUEST", scene -> scene.call("sits", 9, 0, 0, 5));
        all.put("a FAULT of a SCORE", scene -> scene.text("score", "t12x9/s11x2|b13x0"));
        all.put("a FAULT of a LAW", scene -> scene.text("law", "d1(1=1);q7(a=0"));
        all.put("no such n of a SCORE", scene -> {
            scene.feed('t', '1', '2', 'x', '9');
            scene.call("score", 21);
        });
        all.put("no such n of a LAW", scene -> {
            scene.feed('s', '(', '1', '=', '1', ')');
            scene.call("law", 0);
        });
        all.put("SEATED twice on one", scene -> {
            scene.feed(5, 5);
            scene.call("seated", 0, 3, 2, 11);
        });
        all.put("SEATED on another GUEST's", scene -> {
            scene.feed(5, 4);
            scene.call("seated", 0, 3, 2, 11);
        });
        all.put("SEATED with too few", scene -> {
            scene.feed(5, 2);
            scene.call("seated", 0, 3, 1, 11);
        });
        all.put("no such SEED", scene -> scene.call("seed", 65536));
        all.put("CHECK of no such row", scene -> {
            scene.feed(0, 0, 0, 0);
            scene.call("check", 0, 8, 1);
        });
        return all;
    }

    /** Whether any answer behind the second change is another one than ahead of it. */
    private boolean play(Change first, Change second) {
        furnish();
        first.on(this);
        List<Integer> ahead = askAll();
        second.on(this);
        return !askAll().equals(ahead);
    }

    /** What is KEPT is not what is there in the end, so that undo is seen. */
    private void furnish() {
        text("law", LAW);
        text("score", SCORE);
        call("slate", 0, 0, 2, 8, 16);
        for (int g = 0; g < 3; g++) {
            call("guest", g, 10 - 3 * g);
        }
        call("sits", 0, 0, 0, 2);
        call("slate", 1, 0, 3, 10, 24);
        call("keep");
        call("slate", 2, 0, 4, 12, 14);
        call("nail", 2, 1);
        call("seat", 0, 3, 1, 0);
        call("seat", 0, 2, 0, 2);
        call("rain", 0, 2);
        call("rain", 1, 1);
        for (int act = 1; act < 4; act++) {
            call("sits", 0, act, 0, 2);
        }
        call("sits", 1, 0, 0, 6);
        call("sits", 1, 1, 0, 4);
        call("sits", 2, 0, 0, 4);
        call("perform");
    }

    // ---- all that can be asked

    private List<Integer> askAll() {
        call("count", 4);
        call("check", 0, 0, 0);
        List<Integer> answers = new ArrayList<>();
        askAboutTheSeats(answers);
        askAboutTheGuests(answers);
        askByTheTape(answers);
        for (int what : new int[] {0, 1, 2, 3, 5, 6, 7, 8, 10, 11, 13}) {
            answers.add(call("count", what));
        }
        for (int seat = 1; seat < 6; seat++) {
            answers.add(call("count", 100 + seat));
            answers.add(call("count", 200 + seat));
        }
        for (int what : new int[] {0, 1, 10, 11, 12, 13, 20, 21, 22, 23, 40, 41, 42, 43, 46}) {
            answers.add(call("soFar", what));
        }
        return answers;
    }

    private void askAboutTheSeats(List<Integer> answers) {
        for (int i = 0; i < 8; i++) {
            answers.add(call("note", i, 1));
            answers.add(call("note", i, 4));
            answers.add(call("house", 0, i));
            for (int k = 0; k < 4; k++) {
                answers.add(call("drops", i, k));
            }
        }
        for (int i = 0; i < 4; i++) {
            for (int what = 1; what < 4; what++) {
                answers.add(call("house", what, i));
            }
        }
        for (int place = 1; place < 6; place++) {
            for (int act = 0; act < 5; act++) {
                answers.add(call("wet", 0, place, act));
            }
        }
        answers.add(call("sponge", 3, 0));
        answers.add(call("sponge", 3, 1));
    }

    private void askAboutTheGuests(List<Integer> answers) {
        for (int g = 0; g < 4; g++) {
            for (int act = 0; act < 4; act++) {
                answers.add(call("count", 300 + 10 * act + g));
                answers.add(call("guestWet", g, act));
            }
            answers.add(call("guestWet", g, 4));
            answers.add(call("transposed", g, 0));
            answers.add(call("transposed", g, 1));
            answers.add(call("nails", 1 << g, 1));
        }
        for (int act = 0; act < 4; act++) {
            answers.add(call("leftOut", 0, act, -1));
            answers.add(call("leftOut", 0, act, 0));
            answers.add(call("leftOut", 1, act, -1));
        }
        answers.add(call("nails", 7, 0));
        for (int act = 0; act < 5; act++) {
            answers.add(call("paid", act));
        }
    }

    /** Told is how WET SEATS are, so that each answer hangs on THE EVENING. */
    private void askByTheTape(List<Integer> answers) {
        for (int what : new int[] {0, 10}) {
            feed(2, 4);
            answers.add(call("seated", 1, 3, 2, what));
        }
        for (int what = 0; what < 3; what++) {
            feed(2, both.plain.wet(0, 2, 0), 4, both.plain.wet(0, 4, 0));
            answers.add(call("sung", 0, 2, what));
        }
        feed(0, 0, 0, 0, 0, 0, 0, 0, 0, 0, 0, 30, 0, 0, 0, 0);
        answers.add(call("check", 0, 0, 4));
    }

    // ---- calls

    private int call(String name, int... a) {
        return both.call(name, a);
    }

    private void feed(int... bytes) {
        for (int at = 0; at < bytes.length; at += 20) {
            byte[] twenty = new byte[20];
            for (int j = 0; j < 20 && at + j < bytes.length; j++) {
                twenty[j] = (byte) bytes[at + j];
            }
            call("feed", BothOperas.words(twenty, 0));
        }
    }

    private void text(String name, String text) {
        feed(text.chars().toArray());
        call(name, text.length());
    }
}
