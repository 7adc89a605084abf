import java.util.ArrayDeque;
import java.util.ArrayList;
import java.util.Arrays;
import java.util.Deque;
import java.util.HashSet;
import java.util.List;
import java.util.Set;

/** The first FAULT along a text: FAULT 1 by the Grammar alone, all others by where a token stands in its STATEMENT. */
final class Faults {
    private static final List<String> OWN = Arrays.asList(("floor, by, grey, box, at, way, eyes, apart, ahead, bias, "
            + "steers, goes, power, lamp, cat, left, right, mid, lost, step, turned, if, or, and, not, all, min, max")
            .split(", "));

    private final String text;
    private final Grammar grammar = new Grammar();
    private final List<String> names = new ArrayList<>();
    private final Set<String> taken = new HashSet<>();
    private final Set<String> formulas = new HashSet<>();
    /** What is open at once: ( [ not. */
    private final Deque<String> open = new ArrayDeque<>();
    /** The tokens of the STATEMENT at hand so far. */
    private final List<String> statement = new ArrayList<>();
    private int columns;
    private int rows;
    int statements;
    int kind;
    int place = -1;

    Faults(String text) {
        this.text = text;
        int at = skipBlanks(0);
        while (at < text.length() && kind == 0) {
            at = skipBlanks(token(at));
        }
        if (kind == 0 && !grammar.mayEnd()) {
            fault(1, text.length());
        }
    }

    /** The name by which the Grammar knows a token. */
    static String nameOf(String token) {
        if (token.matches("[0-9]+")) {
            return "N";
        }
        return token.matches("[a-z]+") && !OWN.contains(token) ? "NAME" : token;
    }

    /** The names of tokens with which a KITCHEN goes on behind a text without a FAULT. */
    Set<String> goesOnWith() {
        return grammar.goesOnWith();
    }

    private void fault(int newKind, int newPlace) {
        if (kind == 0) {
            kind = newKind;
            place = newPlace;
        }
    }

    private int skipBlanks(int from) {
        int at = from;
        while (at < text.length() && (text.charAt(at) == ' ' || text.charAt(at) == '\n')) {
            at++;
        }
        return at;
    }

    private static boolean isSolid(char sign) {
        return sign >= 'a' && sign <= 'z' || sign >= '0' && sign <= '9';
    }

    /** Looks at the token that begins there: where the next one may begin. */
    private int token(int from) {
        if (statements == 80) {
            fault(6, from);
            return from;
        }
        char sign = text.charAt(from);
        int end = from + 1;
        if (isSolid(sign)) {
            if (from > 0 && isSolid(text.charAt(from - 1))) {
                fault(1, from);
            }
            boolean word = sign >= 'a';
            while (end < text.length() && isSolid(text.charAt(end)) && text.charAt(end) >= 'a' == word) {
                end++;
            }
            if (end - from > (word ? 6 : 4)) {
                fault(1, from + (word ? 6 : 4));
            }
        }
        String token = text.substring(from, end);
        if (kind == 0 && !grammar.take(nameOf(token))) {
            fault(1, from);
        }
        if (kind == 0) {
            inStatement(token, from);
        }
        return end;
    }

    private void inStatement(String token, int from) {
        if (token.equals(";")) {
            endStatement();
            return;
        }
        statement.add(token);
        String head = statement.get(0);
        int k = statement.size() - 1;
        if (head.equals("steers") || head.equals("goes")) {
            inFormula(token, k, from);
        } else if (k == 0) {
            if (head.equals("box") && names.size() == 6) {
                fault(6, from);
            }
        } else if (nameOf(token).equals("NAME")) {
            if (names.contains(token) == head.equals("box")) {
                fault(head.equals("box") ? 2 : 3, from);
            }
        } else if (nameOf(token).equals("N") && !numberCanBe(head, k, Integer.parseInt(token))) {
            fault(4, from);
        }
    }

    private void endStatement() {
        String head = statement.get(0);
        if (head.equals("floor")) {
            columns = Integer.parseInt(statement.get(1));
            rows = Integer.parseInt(statement.get(3));
        }
        if (head.equals("box")) {
            names.add(statement.get(1));
            taken.add(Integer.valueOf(statement.get(3)) + " " + Integer.valueOf(statement.get(4)));
        }
        statements++;
        statement.clear();
        open.clear();
    }

    private boolean numberCanBe(String head, int k, int n) {
        switch (head + " " + k) {
            case "floor 1":
            case "floor 3":
                return n >= 2 && n <= 9;
            case "grey 1":
            case "box 3":
                return n < columns;
            case "grey 2":
                return n < rows;
            case "box 4":
                return n < rows && !taken.contains(Integer.valueOf(statement.get(3)) + " " + n);
            case "box 6":
            case "eyes 5":
                return n <= 3;
            case "eyes 3":
                return n <= 2;
            case "cat 1":
                return n <= 100;
            case "power 1":
                return n <= 999;
            default:
                return n <= 9;
        }
    }

    private void inFormula(String token, int k, int from) {
        switch (token) {
            case "steers":
            case "goes":
                if (!formulas.add(token)) {
                    fault(6, from);
                }
                break;
            case "(":
            case "[":
            case "not":
                if (open.size() == 7) {
                    fault(5, from);
                }
                open.push(token);
                break;
            case ")":
                open.pop();
                break;
            case "and":
            case "or":
            case ",":
                endFact();
                break;
            case "]":
                endFact();
                open.pop();
                break;
            default:
                break;
        }
    }

    private void endFact() {
        while (!open.isEmpty() && open.peek().equals("not")) {
            open.pop();
        }
    }
}
