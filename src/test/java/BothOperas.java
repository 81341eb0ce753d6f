import java.util.ArrayList;
import java.util.List;

/** RainOpera and PlainOpera, the same calls on both: all answers must be alike. */
final class BothOperas {
    /** What is asked of an object beyond so many calls is free. */
    static final int PROMISED_CALLS = 512;

    final PlainOpera plain = new PlainOpera();
    private final RainOpera opera = new RainOpera();
    private final List<String> told = new ArrayList<>();
    private int calls;
    private boolean isWrong;

    int calls() {
        return calls;
    }

    boolean isWrong() {
        return isWrong;
    }

    void tell() {
        told.forEach(System.out::println);
    }

    /** What PlainOpera answered; where it skips the call RainOpera is not asked. */
    int call(String name, int... a) {
        if (calls == PROMISED_CALLS) {
            throw new IllegalStateException("a test uses an object for more calls than are promised");
        }
        calls++;
        int due = onPlain(name, a);
        if (due == PlainOpera.SKIPPED) {
            return due;
        }
        StringBuilder line = new StringBuilder(name).append('(');
        for (int j = 0; j < a.length; j++) {
            line.append(j > 0 ? ", " : "").append(a[j]);
        }
        int got;
        try {
            got = onOpera(name, a);
        } catch (RuntimeException e) {
            told.add(line + ") threw " + e);
            isWrong = true;
            return due;
        }
        told.add(line + ") answered " + got + (got == due ? "" : ", due is " + due));
        isWrong |= got != due;
        return due;
    }

    /** Twenty bytes as feed takes them. */
    static int[] words(byte[] bytes, int from) {
        int[] words = new int[5];
        for (int j = 0; j < 20; j++) {
            words[j / 4] = words[j / 4] << 8 | bytes[from + j] & 255;
        }
        return words;
    }

    private static int bit(boolean is) {
        return is ? 1 : 0;
    }

    private int onOpera(String name, int[] a) {
        RainOpera x = opera;
        switch (name) {
            case "seat": return bit(x.seat(a[0], a[1], a[2] == 1, a[3]));
            case "slate": return bit(x.slate(a[0], a[1], a[2], a[3], a[4]));
            case "nail": return bit(x.nail(a[0], a[1] == 1));
            case "rain": return bit(x.rain(a[0], a[1]));
            case "guest": return bit(x.guest(a[0], a[1]));
            case "sits": return bit(x.sits(a[0], a[1], a[2], a[3]));
            case "feed": return x.feed(a[0], a[1], a[2], a[3], a[4]);
            case "score": return x.score(a[0]);
            case "law": return x.law(a[0]);
            case "note": return x.note(a[0], a[1]);
            case "drops": return x.drops(a[0], a[1]);
            case "wet": return x.wet(a[0], a[1], a[2]);
            case "guestWet": return x.guestWet(a[0], a[1]);
            case "house": return x.house(a[0], a[1]);
            case "seated": return x.seated(a[0], a[1], a[2], a[3]);
            case "transposed": return x.transposed(a[0], a[1]);
            case "leftOut": return x.leftOut(a[0], a[1], a[2]);
            case "nails": return x.nails(a[0], a[1]);
            case "sung": return x.sung(a[0], a[1], a[2]);
            case "sponge": return x.sponge(a[0], a[1]);
            case "paid": return x.paid(a[0]);
            case "perform": return x.perform();
            case "soFar": return x.soFar(a[0]);
            case "seed": return bit(x.seed(a[0]));
            case "draw": return x.draw();
            case "keep": return x.keep();
            case "undo": return bit(x.undo());
            case "check": return x.check(a[0], a[1], a[2]);
            default: return x.count(a[0]);
        }
    }

    private int onPlain(String name, int[] a) {
        PlainOpera x = plain;
        switch (name) {
            case "seat": return bit(x.seat(a[0], a[1], a[2] == 1, a[3]));
            case "slate": return bit(x.slate(a[0], a[1], a[2], a[3], a[4]));
            case "nail": return bit(x.nail(a[0], a[1] == 1));
            case "rain": return bit(x.rain(a[0], a[1]));
            case "guest": return bit(x.guest(a[0], a[1]));
            case "sits": return bit(x.sits(a[0], a[1], a[2], a[3]));
            case "feed": return x.feed(a[0], a[1], a[2], a[3], a[4]);
            case "score": return x.score(a[0]);
            case "law": return x.law(a[0]);
            case "note": return x.note(a[0], a[1]);
            case "drops": return x.drops(a[0], a[1]);
            case "wet": return x.wet(a[0], a[1], a[2]);
            case "guestWet": return x.guestWet(a[0], a[1]);
            case "house": return x.house(a[0], a[1]);
            case "seated": return x.seated(a[0], a[1], a[2], a[3]);
            case "transposed": return x.transposed(a[0], a[1]);
            case "leftOut": return x.leftOut(a[0], a[1], a[2]);
            case "nails": return x.nails(a[0], a[1]);
            case "sung": return x.sung(a[0], a[1], a[2]);
            case "sponge": return x.sponge(a[0], a[1]);
            case "paid": return x.paid(a[0]);
            case "perform": return x.perform();
            case "soFar": return x.soFar(a[0]);
            case "seed": return bit(x.seed(a[0]));
            case "draw": return x.draw();
            case "keep": return x.keep();
            case "undo": return bit(x.undo());
            case "check": return x.check(a[0], a[1], a[2]);
            default: return x.count(a[0]);
        }
    }
}
