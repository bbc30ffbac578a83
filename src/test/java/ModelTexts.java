import java.util.ArrayList;
import java.util.List;

/** The texts, read sign by sign by machines with states instead of by descent: for the model alone. */
final class ModelTexts {
    private ModelTexts() {
    }

    static final String[] LETTERS = {"wmgtpkl", "nvi", "pqn"};
    static final int[][] LOW = {{0, 1, 0, 1, 0, 0, 1}, {1, 1, 0}, {0, 0, 1}};
    static final int[][] HIGH = {{60, 60, 9, 20, 9, 9, 20}, {60, 99, 9}, {60, 30, 9}};
    static final int[][] USUAL = {{30, 40, 3, 8, 3, 2, 10}, {10, 20, 1}, {20, 8, 3}};

    /** Clauses as {kind, items ..}; the fault goes to faultOut[0]. */
    static List<int[]> house(String text, int[] faultOut) {
        List<int[]> clauses = new ArrayList<>();
        int[] counts = new int[3];
        int[] limits = {1, 6, 5};
        int[] clause = null;
        String used = "";
        String state = "clause";
        int item = -1;
        for (int i = 0; i < text.length(); i++) {
            char c = text.charAt(i);
            if (c == ' ') {
                continue;
            }
            if (state.equals("clause")) {
                int kind = "sdb".indexOf(c);
                if (kind < 0 || counts[kind] == limits[kind]) {
                    return fail(faultOut, i);
                }
                counts[kind]++;
                clause = new int[1 + LETTERS[kind].length()];
                clause[0] = kind;
                System.arraycopy(USUAL[kind], 0, clause, 1, clause.length - 1);
                clauses.add(clause);
                used = "";
                state = "item";
            } else if (state.equals("item")) {
                if (c == ';') {
                    state = "clause";
                } else {
                    item = LETTERS[clause[0]].indexOf(c);
                    if (item < 0 || used.indexOf(c) >= 0) {
                        return fail(faultOut, i);
                    }
                    used += c;
                    state = "number";
                }
            } else {
                int last = i;
                while (last < text.length() && Character.isDigit(text.charAt(last)) && last < i + 3) {
                    last++;
                }
                if (last == i || last == i + 3) {
                    return fail(faultOut, last == i ? i : i + 2);
                }
                int value = Integer.parseInt(text.substring(i, last));
                if (value < LOW[clause[0]][item] || value > HIGH[clause[0]][item]) {
                    return fail(faultOut, last - 1);
                }
                clause[1 + item] = value;
                i = last - 1;
                state = "item";
            }
        }
        int down = 30;
        int most = 40;
        for (int[] each : clauses) {
            if (each[0] == 0) {
                down = each[1];
                most = each[2];
            }
        }
        boolean whole = state.equals("item") && counts[2] > 0 && down <= most;
        faultOut[0] = whole ? -1 : text.length();
        return clauses;
    }

    private static <T> T fail(int[] faultOut, int at) {
        faultOut[0] = at;
        return null;
    }

    static List<int[]> plan(String text, int[] faultOut) {
        List<int[]> steps = new ArrayList<>();
        String expect = "wcsp";
        int[] step = null;
        int digits = 0;
        for (int i = 0; i < text.length(); i++) {
            char c = text.charAt(i);
            if (c == ' ') {
                continue;
            }
            if (expect.indexOf(c) < 0 || c == ';' && steps.size() == 16) {
                return fail(faultOut, i);
            }
            if (expect.equals("wcsp")) {
                step = new int[] {"wcsp".indexOf(c), -1, -1};
                steps.add(step);
                digits = 0;
                expect = c == 'w' ? "0123" : c == 'c' ? ";" : "0123456789";
            } else if (expect.equals(";")) {
                expect = "wcsp";
            } else {
                digits++;
                step[digits] = c - '0';
                expect = step[0] == 2 && digits == 1 ? "01" : ";";
            }
        }
        faultOut[0] = expect.equals(";") ? -1 : text.length();
        return steps;
    }

    // A law: frames of 'u' a clause not yet known, 'c' a condition of a clause, 'r' its answer, '(' and '['.
    // Of each frame: how far its unit is: 'l' left of the comparison, 'r' right of it, 'd' closed by ).
    static int lawFault(String text) {
        StringBuilder frames = new StringBuilder();
        StringBuilder phases = new StringBuilder();
        List<Integer> nots = new ArrayList<>();
        String expect = "y";
        int digits = 0;
        boolean unitBegins = false;
        for (int i = 0; i < text.length(); i++) {
            char c = text.charAt(i);
            if (Character.isDigit(c) && digits > 0 && text.charAt(i - 1) != ' ') {
                digits++;
                if (digits == 5) {
                    return i;
                }
                continue;
            }
            if (c == ' ') {
                continue;
            }
            digits = 0;
            int top = frames.length() - 1;
            if (expect.equals("y")) {
                if (c != 'y') {
                    return i;
                }
                expect = ":";
            } else if (expect.equals(":")) {
                if (c != ':') {
                    return i;
                }
                frames.setLength(0);
                phases.setLength(0);
                nots.clear();
                frames.append('u');
                phases.append('l');
                nots.add(0);
                unitBegins = true;
                expect = "operand";
            } else if (expect.equals("operand")) {
                int depth = 0;
                for (int f = 0; f <= top; f++) {
                    depth += nots.get(f) + (frames.charAt(f) == '(' || frames.charAt(f) == '[' ? 1 : 0);
                }
                if (Character.isDigit(c) || "wtknym".indexOf(c) >= 0) {
                    digits = Character.isDigit(c) ? 1 : 0;
                    unitBegins = false;
                    expect = "operator";
                } else if (c == '[' || (c == '!' || c == '(') && unitBegins) {
                    if (depth == 6) {
                        return i;
                    }
                    if (c == '!') {
                        nots.set(top, nots.get(top) + 1);
                        if (frames.charAt(top) == 'u') {
                            frames.setCharAt(top, 'c');
                        }
                    } else {
                        if (c == '(' && frames.charAt(top) == 'u') {
                            frames.setCharAt(top, 'c');
                        }
                        frames.append(c);
                        phases.append('l');
                        nots.add(0);
                        unitBegins = c == '(';
                    }
                } else {
                    return i;
                }
            } else {
                char frame = frames.charAt(top);
                char phase = phases.charAt(top);
                boolean condition = frame == 'c' || frame == '(';
                boolean unitWhole = condition && phase != 'l';
                if ("+-*/".indexOf(c) >= 0 && phase != 'd') {
                    expect = "operand";
                } else if ("=<>".indexOf(c) >= 0 && (condition || frame == 'u') && phase == 'l') {
                    if (frame == 'u') {
                        frames.setCharAt(top, 'c');
                    }
                    phases.setCharAt(top, 'r');
                    expect = "operand";
                } else if ((c == '&' || c == '|') && unitWhole) {
                    phases.setCharAt(top, 'l');
                    nots.set(top, 0);
                    unitBegins = true;
                    expect = "operand";
                } else if (c == '?' && unitWhole && frame == 'c') {
                    frames.setCharAt(top, 'r');
                    phases.setCharAt(top, 'l');
                    nots.set(top, 0);
                    unitBegins = false;
                    expect = "operand";
                } else if (c == ')' && unitWhole && frame == '(' || c == ']' && frame == '[') {
                    frames.setLength(top);
                    phases.setLength(top);
                    nots.remove(top);
                    if (c == ')') {
                        phases.setCharAt(top - 1, 'd');
                    }
                } else if (c == ';' && (frame == 'u' || frame == 'r')) {
                    expect = "y";
                } else {
                    return i;
                }
            }
        }
        char frame = frames.length() == 1 ? frames.charAt(0) : '-';
        return expect.equals("operator") && (frame == 'u' || frame == 'r') ? -1 : text.length();
    }

    /** The worth of a law without a fault, by cutting its text at the signs that bind least. */
    static int worth(String law, int[] letters) {
        for (String clause : law.replace(" ", "").split(";")) {
            String rest = clause.substring(2);
            int mark = rest.indexOf('?');
            if (mark < 0 || holds(rest.substring(0, mark), letters)) {
                return (int) sum(rest.substring(mark + 1), letters);
            }
        }
        return 0;
    }

    /** The last place of one of these signs outside of all brackets. */
    private static int lastOutside(String text, String signs) {
        int depth = 0;
        for (int i = text.length() - 1; i >= 0; i--) {
            char c = text.charAt(i);
            if (c == ')' || c == ']') {
                depth++;
            } else if (c == '(' || c == '[') {
                depth--;
            } else if (depth == 0 && signs.indexOf(c) >= 0) {
                return i;
            }
        }
        return -1;
    }

    private static boolean holds(String text, int[] letters) {
        for (char sign : new char[] {'|', '&'}) {
            int at = lastOutside(text, String.valueOf(sign));
            if (at >= 0) {
                boolean left = holds(text.substring(0, at), letters);
                boolean right = holds(text.substring(at + 1), letters);
                return sign == '|' ? left || right : left && right;
            }
        }
        if (text.charAt(0) == '!') {
            return !holds(text.substring(1), letters);
        }
        if (text.charAt(0) == '(') {
            return holds(text.substring(1, text.length() - 1), letters);
        }
        int at = lastOutside(text, "=<>");
        long left = sum(text.substring(0, at), letters);
        long right = sum(text.substring(at + 1), letters);
        return text.charAt(at) == '=' ? left == right : text.charAt(at) == '<' ? left < right : left > right;
    }

    private static long sum(String text, int[] letters) {
        int at = lastOutside(text, "+-");
        if (at < 0) {
            at = lastOutside(text, "*/");
        }
        if (at >= 0) {
            long left = sum(text.substring(0, at), letters);
            long right = sum(text.substring(at + 1), letters);
            long value;
            switch (text.charAt(at)) {
                case '+':
                    value = left + right;
                    break;
                case '-':
                    value = left - right;
                    break;
                case '*':
                    value = left * right;
                    break;
                default:
                    value = right == 0 ? 0 : left / right;
            }
            return Math.max(-1000000, Math.min(1000000, value));
        }
        if (text.charAt(0) == '[') {
            return sum(text.substring(1, text.length() - 1), letters);
        }
        int letter = "wtknym".indexOf(text.charAt(0));
        return letter >= 0 ? letters[letter] : Long.parseLong(text);
    }
}
