import java.util.ArrayList;
import java.util.List;
import java.util.Random;

/** Texts of KITCHENS by chance: good ones, ones with a slip, and mere heaps of tokens. */
final class Kitchens {
    private static final String[] TOKENS = {"floor", "by", "grey", "box", "at", "way", "eyes", "apart",
        "ahead", "bias", "steers", "goes", "power", "lamp", "cat", "left", "right", "mid", "lost", "step",
        "turned", "if", "or", "and", "not", "all", "min", "max", "(", ")", "[", "]", "+", "-", "*", "/",
        "%", ",", ";", "<", ">", "=", "0", "1", "7", "10", "9999", "12345", "a", "bo", "sixsix", "sevenxx",
        "A", "!", "\n"};
    private static final String[] NAMES = {"a", "b", "bo", "amy", "cart", "lines", "robota", "zz", "minx", "iff"};

    private final Random random;

    Kitchens(Random random) {
        this.random = random;
    }

    private String pick(String... of) {
        return of[random.nextInt(of.length)];
    }

    private String gap() {
        return random.nextInt(12) == 0 ? pick("  ", "\n", " \n ") : " ";
    }

    private String some() {
        return random.nextInt(6) == 0 ? pick(" ", "\n") : "";
    }

    String any() {
        int kind = random.nextInt(10);
        if (kind < 5) {
            return good();
        }
        if (kind < 7) {
            return slipped(good());
        }
        return kind < 9 ? withStatements(good()) : heap();
    }

    String good() {
        int columns = 2 + random.nextInt(8);
        int rows = 2 + random.nextInt(8);
        StringBuilder s = new StringBuilder();
        s.append(some()).append("floor").append(gap()).append(columns).append(gap()).append("by");
        s.append(gap()).append(rows).append(some()).append(';');
        List<String> others = new ArrayList<>();
        addGreys(others, columns, rows);
        List<String> named = new ArrayList<>();
        addBoxes(others, named, columns, rows);
        if (random.nextInt(2) == 0) {
            others.add("steers" + gap() + sum(3, false));
        }
        if (random.nextInt(2) == 0) {
            others.add("goes" + gap() + test(3));
        }
        if (random.nextInt(3) == 0) {
            others.add("power " + pick("0", "1", "5", "30", "200", "999"));
        }
        if (random.nextInt(3) == 0) {
            others.add("lamp " + random.nextInt(random.nextInt(10) + 1));
        }
        if (random.nextInt(2) == 0) {
            others.add("cat " + random.nextInt(101));
        }
        for (String o : others) {
            s.append(some()).append(o).append(some()).append(';');
        }
        return s.append(some()).toString();
    }

    private void addGreys(List<String> others, int columns, int rows) {
        int column = random.nextInt(columns);
        int row = random.nextInt(rows);
        int count = random.nextInt(random.nextBoolean() ? 40 : 10);
        for (int k = 0; k < count; k++) {
            others.add("grey " + column + gap() + row + " " + (random.nextInt(3) == 0 ? random.nextInt(10) : 9));
            if (random.nextBoolean()) {
                column = Math.max(0, Math.min(columns - 1, column + random.nextInt(3) - 1));
            } else {
                row = Math.max(0, Math.min(rows - 1, row + random.nextInt(3) - 1));
            }
        }
    }

    private void addBoxes(List<String> others, List<String> named, int columns, int rows) {
        boolean[] taken = new boolean[81];
        int count = random.nextInt(7);
        for (int k = 0; k < count; k++) {
            int column = random.nextInt(columns);
            int row = random.nextInt(rows);
            String name = NAMES[random.nextInt(NAMES.length)];
            if (taken[9 * row + column] || named.contains(name)) {
                continue;
            }
            taken[9 * row + column] = true;
            named.add(name);
            others.add("box " + name + gap() + "at " + column + " " + row + " way " + random.nextInt(4));
            if (random.nextInt(3) == 0) {
                others.add("eyes " + name + " apart " + random.nextInt(3) + " ahead " + random.nextInt(4));
            }
            if (random.nextInt(2) == 0) {
                others.add("bias " + name + " " + random.nextInt(10));
            }
        }
    }

    private String sum(int deep, boolean goes) {
        StringBuilder s = new StringBuilder(product(deep, goes));
        for (int k = random.nextInt(3); k > 0; k--) {
            s.append(some()).append(pick("+", "-")).append(some()).append(product(deep, goes));
        }
        return s.toString();
    }

    private String product(int deep, boolean goes) {
        StringBuilder s = new StringBuilder(part(deep, goes));
        while (random.nextInt(3) == 0) {
            s.append(some()).append(pick("*", "/", "%")).append(part(deep, goes));
        }
        return s.toString();
    }

    private String part(int deep, boolean goes) {
        int kind = random.nextInt(deep > 0 ? 10 : 6);
        if (kind < 2) {
            return pick("0", "1", "2", "3", "5", "17", "9999", "0007");
        }
        if (kind < 6) {
            return goes ? pick("left", "right", "mid", "lost", "step", "turned", "power")
                    : pick("left", "right", "mid", "lost", "step");
        }
        if (kind == 6) {
            return "(" + sum(deep - 1, goes) + ")";
        }
        if (kind < 9) {
            return pick("min", "max") + some() + "(" + sum(deep - 1, goes) + "," + sum(deep - 1, goes) + ")";
        }
        return "if(" + facts(deep - 1, goes) + "," + sum(deep - 1, goes) + some() + "," + sum(deep - 1, goes) + ")";
    }

    private String test(int deep) {
        return facts(deep, true);
    }

    private String facts(int deep, boolean goes) {
        StringBuilder s = new StringBuilder(fact(deep, goes));
        while (random.nextInt(3) == 0) {
            s.append(' ').append(pick("and", "or")).append(' ').append(fact(deep, goes));
        }
        return s.toString();
    }

    private String fact(int deep, boolean goes) {
        int kind = random.nextInt(deep > 0 ? 8 : 5);
        if (kind == 0) {
            return "all";
        }
        if (kind < 5) {
            return sum(deep, goes) + some() + pick("<", ">", "=") + some() + sum(deep, goes);
        }
        if (kind < 7) {
            return "not " + fact(deep - 1, goes);
        }
        return "[" + facts(deep - 1, goes) + "]";
    }

    private String slipped(String text) {
        StringBuilder s = new StringBuilder(text);
        for (int k = 1 + random.nextInt(2); k > 0 && s.length() > 0; k--) {
            int at = random.nextInt(s.length());
            switch (random.nextInt(6)) {
                case 0:
                    s.deleteCharAt(at);
                    break;
                case 1:
                    s.setCharAt(at, pick("a", "1", ";", " ", "(", "9", ")", "<", "z", "B").charAt(0));
                    break;
                case 2:
                    s.insert(at, pick(TOKENS));
                    break;
                case 3:
                    s.insert(at, " " + pick(TOKENS) + " ");
                    break;
                case 4:
                    s.setLength(at);
                    break;
                default:
                    int from = random.nextInt(s.length());
                    s.insert(at, text.substring(Math.min(from, text.length()),
                            Math.min(text.length(), from + random.nextInt(40))));
                    break;
            }
        }
        return s.toString();
    }

    /** Whole STATEMENTS more, which may be one too many, name what is not there, go too deep. */
    private String withStatements(String text) {
        StringBuilder s = new StringBuilder(text.length() < 1400 ? text : "floor 5 by 5;");
        for (int k = 1 + random.nextInt(random.nextInt(4) == 0 ? 90 : 3); k > 0; k--) {
            int at = random.nextInt(3) == 0 ? s.lastIndexOf(";", random.nextInt(s.length())) + 1 : s.length();
            s.insert(at, some() + statement() + some() + ";");
        }
        return s.toString();
    }

    private String statement() {
        switch (random.nextInt(8)) {
            case 0:
            case 1:
                return "box " + pick(NAMES) + " at " + random.nextInt(6) + " " + random.nextInt(6) + " way "
                        + random.nextInt(5);
            case 2:
                return "eyes " + pick(NAMES) + " apart " + random.nextInt(4) + " ahead " + random.nextInt(5);
            case 3:
                return "bias " + pick(NAMES) + " " + random.nextInt(11);
            case 4:
                return "steers " + nested(false);
            case 5:
                return "goes " + nested(true);
            case 6:
                return "grey " + random.nextInt(6) + " " + random.nextInt(6) + " " + random.nextInt(11);
            default:
                return pick("lamp 3", "lamp 10", "power 999", "power 1000", "cat 100", "cat 101", "lamp 0", "cat 5");
        }
    }

    /** Six to nine that are open at once, then closed. */
    private String nested(boolean test) {
        StringBuilder open = new StringBuilder();
        StringBuilder close = new StringBuilder();
        boolean inTest = test;
        for (int k = 5 + random.nextInt(4); k > 0; k--) {
            String next = inTest ? pick("not ", "[", "(", "(") : pick("(", "min(1,", "if(", "max(mid,");
            open.append(next);
            if (next.equals("[")) {
                close.insert(0, "]");
            } else if (next.equals("if(")) {
                close.insert(0, ",1,2)");
                inTest = true;
            } else if (!next.equals("not ")) {
                close.insert(0, inTest ? ")<3" : ")");
                inTest = false;
            }
        }
        return open + (inTest ? "1=2" : "left") + close;
    }

    private String heap() {
        StringBuilder s = new StringBuilder(random.nextBoolean() ? "floor 4 by 5;" : "");
        if (random.nextInt(3) == 0) {
            s.append(pick("goes ", "steers ")).append("((not[".repeat(random.nextInt(5)));
        }
        for (int k = random.nextInt(200); k > 0 && s.length() < 1500; k--) {
            s.append(random.nextInt(20) == 0 ? pick(TOKENS) : "lamp 1;");
            s.append(some());
        }
        return s.toString();
    }
}
