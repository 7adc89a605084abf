import java.util.ArrayList;
import java.util.List;
import java.util.Random;
import java.util.Set;

/** FAULTS of texts by chance: each must be the one that the Grammar and the places of tokens tell. */
public final class GrammarTest {
    private static final int TEXTS = 6000;
    private static final String[] NUMBERS = {"0", "1", "2", "3", "4", "5", "9", "10", "0002", "100", "101", "999", "1000", "9999"};
    private static final String[] NAMES = {"a", "b", "c", "dd", "maxi", "floors", "zzzzzz", "cats", "e", "f", "g"};
    private static final String[] OTHERS = {"", "floor", "box", "turned", "power", "not", "(", ")", "[", "]", ",", ";", "<", "-",
        "1", "12345", "abcdefg", "zz", "or", "all", "if", "min", "!", "A", "\u00e9", "\t"};

    private GrammarTest() {
    }

    public static void main(String[] args) {
        int from = args.length > 0 ? Integer.parseInt(args[0]) : 0;
        int count = args.length > 1 ? Integer.parseInt(args[1]) : TEXTS;
        int[] seen = new int[7];
        BlackLine line = new BlackLine();
        for (int run = from; run < from + count; run++) {
            if (run % 20 == 0) {
                line = new BlackLine();
            }
            Random random = new Random(run);
            String text = run % 3 == 0 ? new Kitchens(random).any() : run % 20 == 1 ? late(random) : walk(random);
            seen[same(line, text.length() > 1600 ? text.substring(0, 1600) : text)]++;
        }
        for (int kind = 0; kind < seen.length && count >= TEXTS; kind++) {
            Check.due("many texts with FAULT " + kind, seen[kind] > count / 200, true);
        }
        Check.finish();
    }

    private static int same(BlackLine line, String text) {
        Faults due = new Faults(text);
        Check.feedBytes(line, Check.bytesOf(text));
        Check.due("kitchen() of '" + text + "'", line.kitchen(), due.kind == 0 ? due.statements : -1);
        Check.due("fault(0) of '" + text + "'", line.fault(0), due.kind);
        Check.due("fault(1) of '" + text + "'", line.fault(1), due.place);
        return due.kind;
    }

    /** Token by token one with which a KITCHEN goes on, and at last, mostly, one that need not be such. */
    private static String walk(Random random) {
        StringBuilder text = new StringBuilder();
        Grammar grammar = new Grammar();
        int length = 6 + random.nextInt(80);
        int boxes = 0;
        String before = "";
        boolean deep = random.nextInt(6) == 0;
        boolean whole = random.nextBoolean();
        for (int k = 0; k < length || whole && k < 300 && !before.equals(";"); k++) {
            boolean named = boxes > 0 || random.nextInt(9) == 0;
            String name = chosen(random, grammar.goesOnWith(), deep && k < length, named);
            String token = name;
            if (name.equals("NAME")) {
                token = nameFor(random, before.equals("box"), boxes);
                boxes += before.equals("box") ? 1 : 0;
            } else if (name.equals("N")) {
                token = number(random, k < 6, before);
            }
            grammar.take(name);
            text.append(between(random, before, token)).append(token);
            before = token;
        }
        if (random.nextInt(whole ? 4 : 1) == 0) {
            text.append(random.nextBoolean() ? " " : "").append(OTHERS[random.nextInt(OTHERS.length)]);
        }
        return text.toString();
    }

    /** So many STATEMENTS ahead that the last ones may be too many. */
    private static String late(Random random) {
        String text = walk(random);
        int floor = text.indexOf(';') + 1;
        return text.substring(0, floor) + "cat 1;".repeat(65 + random.nextInt(15)) + text.substring(floor);
    }

    private static String between(Random random, String before, String token) {
        boolean blank = random.nextInt(8) == 0 || isWordy(before) && isWordy(token);
        return blank ? random.nextInt(9) == 0 ? "\n" : " " : "";
    }

    /** For a BOX mostly the next one, else mostly one that is given already. */
    private static String nameFor(Random random, boolean given, int boxes) {
        if (random.nextInt(8) == 0) {
            return NAMES[random.nextInt(NAMES.length)];
        }
        return NAMES[given ? boxes % NAMES.length : random.nextInt(Math.max(1, Math.min(boxes, NAMES.length)))];
    }

    private static String number(Random random, boolean side, String before) {
        if (random.nextInt(60) == 0) {
            return NUMBERS[random.nextInt(NUMBERS.length)];
        }
        int most = isWordy(before) && !before.equals("at") && !before.equals("grey") ? 2 : 8;
        return side ? "9" : String.valueOf(random.nextInt(most + 1));
    }

    private static boolean isWordy(String token) {
        return !token.isEmpty() && Character.isLetterOrDigit(token.charAt(token.length() - 1));
    }

    /** At times one that opens something, so that it goes deep; mostly a NAME is asked only when one is given. */
    private static String chosen(Random random, Set<String> names, boolean deep, boolean named) {
        List<String> list = new ArrayList<>(names);
        List<String> opening = new ArrayList<>(names);
        opening.retainAll(List.of("(", "[", "not", "min", "max", "if", "steers", "goes"));
        if (deep && !opening.isEmpty() && random.nextBoolean()) {
            list = opening;
        } else if (list.contains("box")) {
            list.addAll(List.of("box", "box", "box", "box"));
            if (!named) {
                list.removeAll(List.of("eyes", "bias"));
            }
        }
        return list.get(random.nextInt(list.size()));
    }
}
