import java.util.ArrayDeque;
import java.util.Deque;

/**
 * Laws read in another way than the class does: faults by an automaton that goes letter
 * by letter, values by splitting the text at what binds least.
 */
final class NaiveLaw {

    /** What is kept of what stands around an open bracket. */
    private record Around(boolean compared, int open) { }

    /** The first letter with which no text goes on; the length, if it ends too early; -1: it is a text. */
    static int fault(String text) {
        Deque<Around> brackets = new ArrayDeque<>();
        boolean wants = true;      // an operand is wanted
        boolean compared = false;  // this B has its < = >
        boolean asked = false;     // this LINE has its ?
        int open = 0;              // ( ! - open now
        int digits = 0;            // of the number that stands last
        for (int i = 0; i < text.length(); i++) {
            char x = text.charAt(i);
            if (wants) {
                if (x == '(' || x == '!' || x == '-') {
                    if (open == 6) return i;
                    open++;
                    if (x == '(') {
                        brackets.push(new Around(compared, open));
                        compared = false;
                    }
                    continue;
                }
                if (!isDigit(x) && "pbwchn".indexOf(x) < 0) return i;
                digits = isDigit(x) ? 1 : 0;
                wants = false;
                // What stood ahead of this operand alone is closed by it.
                open = brackets.isEmpty() ? 0 : brackets.peek().open();
                continue;
            }
            if (isDigit(x) && digits > 0 && digits < 4) {
                digits++;
                continue;
            }
            digits = 0;
            if (x == ')') {
                if (brackets.isEmpty()) return i;
                compared = brackets.pop().compared();
                open = brackets.isEmpty() ? 0 : brackets.peek().open();
                continue;
            }
            wants = true;
            if ("<=>".indexOf(x) >= 0) {
                if (compared) return i;
                compared = true;
            } else if (x == '&' || x == '|') {
                compared = false;
            } else if (x == '?' || x == ';') {
                if (!brackets.isEmpty() || x == '?' && asked) return i;
                asked = x == '?';
                compared = false;
            } else if ("+-*/%".indexOf(x) < 0) {
                return i;
            }
        }
        return wants || !brackets.isEmpty() ? text.length() : -1;
    }

    private static boolean isDigit(char x) {
        return x >= '0' && x <= '9';
    }

    /** Of a text without a fault; names: p, b, w, c, h, n. */
    static int value(String text, int[] names) {
        for (String line : text.split(";")) {
            int asks = line.indexOf('?');
            if (asks < 0) return worth(line, names);
            if (worth(line.substring(0, asks), names) != 0) return worth(line.substring(asks + 1), names);
        }
        return 0;
    }

    private static int worth(String text, int[] names) {
        for (String signs : new String[] {"|", "&", "<=>", "+-", "*/%"}) {
            int at = last(text, signs);
            if (at > 0) {
                int a = worth(text.substring(0, at), names), b = worth(text.substring(at + 1), names);
                return switch (text.charAt(at)) {
                    case '|' -> a != 0 | b != 0 ? 1 : 0;
                    case '&' -> a != 0 & b != 0 ? 1 : 0;
                    case '<' -> a < b ? 1 : 0;
                    case '=' -> a == b ? 1 : 0;
                    case '>' -> a > b ? 1 : 0;
                    case '+' -> a + b;
                    case '-' -> a - b;
                    case '*' -> a * b;
                    case '/' -> b == 0 ? 0 : a / b;
                    default -> b == 0 ? 0 : a % b;
                };
            }
        }
        char first = text.charAt(0);
        if (first == '!') return worth(text.substring(1), names) == 0 ? 1 : 0;
        if (first == '-') return -worth(text.substring(1), names);
        if (first == '(') return worth(text.substring(1, text.length() - 1), names);
        int name = "pbwchn".indexOf(first);
        return name >= 0 ? names[name] : Integer.parseInt(text);
    }

    /** The last of these signs that stands outside brackets, between two operands; -1: none. */
    private static int last(String text, String signs) {
        int found = -1, deep = 0;
        boolean wants = true;
        for (int i = 0; i < text.length(); i++) {
            char x = text.charAt(i);
            if (!wants && deep == 0 && signs.indexOf(x) >= 0) found = i;
            if (x == '(') deep++;
            if (x == ')') deep--;
            wants = x != ')' && !Character.isLetterOrDigit(x);
        }
        return found;
    }

    private NaiveLaw() { }
}
