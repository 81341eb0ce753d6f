import java.util.ArrayDeque;
import java.util.ArrayList;
import java.util.List;

/** THE LAW for PlainOpera: faults by a row of what is open, meaning by a tree that is asked from its root. */
final class PlainLaw {
    private static final String LETTERS = "vplibkaryxow";

    /** What is divided by 0. */
    static final class Refused extends RuntimeException {
        private static final long serialVersionUID = 1L;
    }

    static final class Clause {
        char kind;
        Tree amount;
        Tree condition;
    }

    /** A sign over up to two others; a number or a letter under none. */
    static final class Tree {
        char sign;
        int value;
        Tree left;
        Tree right;

        int ask(int[] letters) {
            switch (sign) {
                case 'n': return value;
                case 'l': return letters[value];
                case '!': return 1 - left.ask(letters);
                case '&': return left.ask(letters) == 0 ? 0 : right.ask(letters);
                case '|': return left.ask(letters) == 1 ? 1 : right.ask(letters);
                default:
            }
            int a = left.ask(letters);
            int b = right.ask(letters);
            switch (sign) {
                case '+': return a + b;
                case '-': return a - b;
                case '*': return a * b;
                case '<': return a < b ? 1 : 0;
                case '>': return a > b ? 1 : 0;
                case '=': return a == b ? 1 : 0;
                default:
            }
            if (b == 0) {
                throw new Refused();
            }
            return sign == '/' ? a / b : a % b;
        }
    }

    private PlainLaw() {
    }

    static int[] letters(Object... told) {
        int[] letters = new int[LETTERS.length()];
        for (int j = 0; j < told.length; j += 2) {
            letters[LETTERS.indexOf((String) told[j])] = (Integer) told[j + 1];
        }
        return letters;
    }

    private static int asked(Tree tree, int[] letters) {
        try {
            return tree.ask(letters);
        } catch (Refused r) {
            return 0;
        }
    }

    static int amount(List<Clause> law, char kind, int[] letters, int most) {
        for (Clause c : law) {
            if (c.kind == kind && asked(c.condition, letters) == 1) {
                int amount = asked(c.amount, letters);
                return amount < 0 ? 0 : amount > most ? most : amount;
            }
        }
        return 0;
    }

    static boolean any(List<Clause> law, char kind, int[] letters) {
        return law.stream().anyMatch(c -> c.kind == kind && asked(c.condition, letters) == 1);
    }

    // ---- faults

    /** Open are: E a clause's amount, ( [ ! as they stand, L and R the sides of a comparison. */
    static int fault(String text) {
        ArrayDeque<Character> open = new ArrayDeque<>();
        String state = "clause";
        int clauses = 0;
        int digits = 0;
        for (int at = 0; at <= text.length(); at++) {
            boolean end = at == text.length();
            char c = end ? '\0' : text.charAt(at);
            if (end && state.equals("closed")) {
                return 0;
            }
            if (end) {
                return -1000 - at;
            }
            boolean digit = c >= '0' && c <= '9';
            boolean opens = state.equals("piece") && (c == '(' || c == '!')
                    || (state.equals("piece") || state.equals("factor")) && c == '[';
            if (opens && open.stream().filter(o -> "([!".indexOf(o) >= 0).count() == 6) {
                return -5000 - at;
            }
            if (state.equals("closed") && c == ';') {
                state = "clause";
            } else if (state.equals("clause") && "dsmq".indexOf(c) >= 0) {
                clauses++;
                if (clauses == 15) {
                    return -4000 - at;
                }
                if (c != 's') {
                    open.push('E');
                }
                state = c == 's' ? "bracket" : "factor";
            } else if (state.equals("bracket") && c == '(') {
                open.push('(');
                state = "piece";
            } else if (opens && c != '[') {
                open.push(c);
            } else if (opens) {
                if (state.equals("piece")) {
                    open.push('L');
                }
                open.push('[');
                state = "factor";
            } else if ((state.equals("piece") || state.equals("factor")) && (digit || LETTERS.indexOf(c) >= 0)) {
                if (state.equals("piece")) {
                    open.push('L');
                }
                digits = digit ? 1 : 0;
                state = digit ? "number" : "behind";
            } else if (state.equals("number") && digit) {
                digits++;
                if (digits == 6) {
                    return -2000 - at;
                }
            } else if (state.equals("number") || state.equals("behind")) {
                state = behindFactor(open, c);
            } else if (state.equals("held")) {
                state = behindPiece(open, c);
            } else {
                return -1000 - at;
            }
            if (state == null) {
                return -1000 - at;
            }
        }
        throw new IllegalStateException("past the end");
    }

    private static String behindFactor(ArrayDeque<Character> open, char c) {
        char innermost = open.peek();
        if ("+-*/%".indexOf(c) >= 0) {
            return "factor";
        }
        if (innermost == '[' && c == ']') {
            open.pop();
            return "behind";
        }
        if (innermost == 'E' && c == '(') {
            open.pop();
            open.push('(');
            return "piece";
        }
        if (innermost == 'L' && "<>=".indexOf(c) >= 0) {
            open.pop();
            open.push('R');
            return "factor";
        }
        if (innermost == 'R') {
            open.pop();
            dropNots(open);
            return behindPiece(open, c);
        }
        return null;
    }

    private static void dropNots(ArrayDeque<Character> open) {
        while (!open.isEmpty() && open.peek() == '!') {
            open.pop();
        }
    }

    private static String behindPiece(ArrayDeque<Character> open, char c) {
        if (c == '&' || c == '|') {
            return "piece";
        }
        if (c != ')') {
            return null;
        }
        open.pop();
        if (open.isEmpty()) {
            return "closed";
        }
        dropNots(open);
        return "held";
    }

    // ---- meaning, of texts without a fault

    static List<Clause> parse(String text) {
        List<Clause> law = new ArrayList<>();
        for (String part : text.split(";")) {
            Clause clause = new Clause();
            clause.kind = part.charAt(0);
            int bracket = part.indexOf('(');
            clause.amount = clause.kind == 's' ? null : tree(part.substring(1, bracket));
            clause.condition = tree(part.substring(bracket + 1, part.length() - 1));
            law.add(clause);
        }
        return law;
    }

    /** Split at the loosest sign that is in no bracket, at the last such: so it goes from the left on. */
    private static Tree tree(String text) {
        for (String signs : new String[] {"|", "&"}) {
            Tree split = split(text, signs);
            if (split != null) {
                return split;
            }
        }
        if (text.charAt(0) == '!') {
            Tree not = new Tree();
            not.sign = '!';
            not.left = tree(text.substring(1));
            return not;
        }
        for (String signs : new String[] {"<>=", "+-", "*/%"}) {
            Tree split = split(text, signs);
            if (split != null) {
                return split;
            }
        }
        if (text.charAt(0) == '(' || text.charAt(0) == '[') {
            return tree(text.substring(1, text.length() - 1));
        }
        Tree leaf = new Tree();
        boolean letter = LETTERS.indexOf(text.charAt(0)) >= 0;
        leaf.sign = letter ? 'l' : 'n';
        leaf.value = letter ? LETTERS.indexOf(text.charAt(0)) : Integer.parseInt(text);
        return leaf;
    }

    private static Tree split(String text, String signs) {
        int depth = 0;
        for (int at = text.length() - 1; at >= 0; at--) {
            char c = text.charAt(at);
            depth += ")]".indexOf(c) >= 0 ? 1 : "([".indexOf(c) >= 0 ? -1 : 0;
            if (depth == 0 && signs.indexOf(c) >= 0) {
                Tree tree = new Tree();
                tree.sign = c;
                tree.left = tree(text.substring(0, at));
                tree.right = tree(text.substring(at + 1));
                return tree;
            }
        }
        return null;
    }
}
