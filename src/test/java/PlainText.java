import java.util.ArrayDeque;
import java.util.ArrayList;
import java.util.Deque;
import java.util.List;
import java.util.Map;
import java.util.Set;

/** A text read by a stack of open signs, its values joined while it is read again for every asking. */
final class PlainText {
    private static final Set<String> NAMES = Set.of("in", "late", "kind", "wait", "prev", "fog", "bags", "crew");
    private static final String[] KEYS = {"prio", "sep", "hold"};
    private static final Map<String, Integer> BINDS = Map.of("or", 1, "and", 2, "<", 4, "=", 4, "+", 5, "-", 5, "*", 6);

    private final List<Integer> bytes;
    private final List<String> tokens = new ArrayList<>();
    private final List<Integer> places = new ArrayList<>();
    /** The place of the fault; -1: none. */
    final int fault;

    PlainText(List<Integer> bytes) {
        this.bytes = bytes;
        split();
        int bad = firstBad();
        fault = bad < 0 ? -1 : bad < places.size() ? places.get(bad) : bytes.size();
    }

    static PlainText of(String text) {
        List<Integer> bytes = new ArrayList<>();
        text.chars().forEach(bytes::add);
        return new PlainText(bytes);
    }

    private static String sortOf(int b) {
        return b >= 'a' && b <= 'z' ? "letter" : b >= '0' && b <= '9' ? "digit" : b == 32 || b == 10 ? "blank" : "sign";
    }

    private void split() {
        int i = 0;
        while (i < bytes.size()) {
            String sort = sortOf(bytes.get(i));
            int end = i + 1;
            while (!sort.equals("sign") && end < bytes.size() && sortOf(bytes.get(end)).equals(sort)) {
                end++;
            }
            if (!sort.equals("blank")) {
                StringBuilder token = new StringBuilder();
                for (int b : bytes.subList(i, end)) {
                    token.append((char) b);
                }
                tokens.add(token.toString());
                places.add(i);
            }
            i = end;
        }
    }

    private static boolean isNumber(String token) {
        return sortOf(token.charAt(0)).equals("digit") && token.length() <= 4;
    }

    /** Which token can't stand where it stands (as many as there are: an end that is too early). */
    private int firstBad() {
        int i = 0;
        for (String key : KEYS) {
            if (i >= tokens.size() || !tokens.get(i).equals(key)) {
                return i;
            }
            i++;
            Deque<String> open = new ArrayDeque<>();
            boolean wantsOne = true;
            while (true) {
                if (i >= tokens.size()) {
                    return i;
                }
                String token = tokens.get(i);
                if (wantsOne) {
                    if (isNumber(token) || NAMES.contains(token)) {
                        drop(open, "neg");
                        wantsOne = false;
                    } else if (token.equals("(") || token.equals("-") || token.equals("not")) {
                        boolean notHere = token.equals("not") && !mayNot(tokens.get(i - 1), open);
                        if (notHere || deep(open) >= 5) {
                            return i;
                        }
                        open.push(token.equals("-") ? "neg" : token);
                    } else {
                        return i;
                    }
                } else if (token.equals(";")) {
                    drop(open, "cmp");
                    drop(open, "not");
                    if (!open.isEmpty()) {
                        return i;
                    }
                    i++;
                    break;
                } else if (token.equals(")")) {
                    drop(open, "cmp");
                    drop(open, "not");
                    if (open.isEmpty()) {
                        return i;
                    }
                    open.pop();
                    drop(open, "neg");
                } else if (token.equals("and") || token.equals("or")) {
                    drop(open, "cmp");
                    drop(open, "not");
                    wantsOne = true;
                } else if (token.equals("<") || token.equals("=")) {
                    if ("cmp".equals(open.peek())) {
                        return i;
                    }
                    open.push("cmp");
                    wantsOne = true;
                } else if (token.equals("+") || token.equals("-") || token.equals("*")) {
                    wantsOne = true;
                } else {
                    return i;
                }
                i++;
            }
        }
        return i < tokens.size() ? i : -1;
    }

    /** A not may stand at the start of an E, and behind or, and, not. */
    private static boolean mayNot(String before, Deque<String> open) {
        return Set.of("prio", "sep", "hold", "(", "or", "and", "not").contains(before);
    }

    private static int deep(Deque<String> open) {
        return (int) open.stream().filter(s -> !s.equals("cmp")).count();
    }

    private static void drop(Deque<String> open, String which) {
        while (which.equals(open.peek())) {
            open.pop();
        }
    }

    // ---- values: by how strongly a sign binds

    private int at;

    int value(int part, Map<String, Integer> names) {
        at = tokens.indexOf(KEYS[part]) + 1;
        return from(1, names);
    }

    private int from(int least, Map<String, Integer> names) {
        int left = first(names);
        while (BINDS.getOrDefault(tokens.get(at), 0) >= least) {
            String sign = tokens.get(at++);
            int right = from(BINDS.get(sign) + 1, names);
            left = joined(sign, left, right);
        }
        return left;
    }

    private int first(Map<String, Integer> names) {
        String token = tokens.get(at++);
        switch (token) {
            case "not":
                return from(3, names) == 0 ? 1 : 0;
            case "-":
                return -first(names);
            case "(":
                int inside = from(1, names);
                at++;
                return inside;
            default:
                return names.containsKey(token) ? names.get(token) : Integer.parseInt(token);
        }
    }

    private static int joined(String sign, int a, int b) {
        switch (sign) {
            case "or": return a != 0 || b != 0 ? 1 : 0;
            case "and": return a != 0 && b != 0 ? 1 : 0;
            case "<": return a < b ? 1 : 0;
            case "=": return a == b ? 1 : 0;
            case "+": return a + b;
            case "-": return a - b;
            default: return a * b;
        }
    }
}
