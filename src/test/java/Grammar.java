import java.util.ArrayList;
import java.util.LinkedHashSet;
import java.util.List;
import java.util.Map;
import java.util.Set;
import java.util.TreeMap;
import java.util.TreeSet;

/**
 * The document's grammar as it stands there, rule by rule. All ways in which a KITCHEN can go on are
 * followed at once (Earley's way), so that no choice of a reader's own is in it.
 */
final class Grammar {
    private static final String TEXT = "KITCHEN: floor N by N ; REST. REST: . REST: REST STATEMENT ; . "
            + "STATEMENT: grey N N N. STATEMENT: box NAME at N N way N. STATEMENT: eyes NAME apart N ahead N. "
            + "STATEMENT: bias NAME N. STATEMENT: steers SUM. STATEMENT: goes GTEST. STATEMENT: power N. "
            + "STATEMENT: lamp N. STATEMENT: cat N. ";
    /** Of steers; of goes all is the same, with a G ahead of each, but for what only goes may ask. */
    private static final String FORMULA = "SUM: PRODUCT. SUM: SUM + PRODUCT. SUM: SUM - PRODUCT. PRODUCT: PART. "
            + "PRODUCT: PRODUCT * PART. PRODUCT: PRODUCT / PART. PRODUCT: PRODUCT % PART. "
            + "PART: N. PART: left. PART: right. PART: mid. PART: lost. PART: step. PART: ( SUM ) . "
            + "PART: min ( SUM , SUM ) . PART: max ( SUM , SUM ) . PART: if ( TEST , SUM , SUM ) . "
            + "TEST: BOTH. TEST: TEST or BOTH. BOTH: FACT. BOTH: BOTH and FACT. "
            + "FACT: not FACT. FACT: [ TEST ] . FACT: all. FACT: SUM < SUM. FACT: SUM > SUM. FACT: SUM = SUM. ";
    private static final Map<String, List<List<String>>> RULES = rules();

    /** A rule that is gone along up to a place in it, begun behind so many tokens. */
    private record Item(String made, List<String> rule, int upTo, int begun) {
        String next() {
            return upTo < rule.size() ? rule.get(upTo) : "";
        }

        Item further() {
            return new Item(made, rule, upTo + 1, begun);
        }
    }

    /** Behind k tokens, for each k. */
    private final List<Set<Item>> behind = new ArrayList<>();

    Grammar() {
        Set<Item> first = new LinkedHashSet<>();
        for (List<String> rule : RULES.get("KITCHEN")) {
            first.add(new Item("KITCHEN", rule, 0, 0));
        }
        behind.add(closed(first, 0));
    }

    private static Map<String, List<List<String>>> rules() {
        Map<String, List<List<String>>> rules = new TreeMap<>();
        String inGoes = FORMULA.replaceAll("\\b([A-Z]{2,})\\b", "G$1") + "GPART: turned. GPART: power. ";
        for (String rule : (TEXT + FORMULA + inGoes).split("\\. ")) {
            String[] parts = rule.split(":", 2);
            String right = parts[1].trim();
            rules.computeIfAbsent(parts[0].trim(), k -> new ArrayList<>())
                    .add(right.isEmpty() ? List.of() : List.of(right.split(" ")));
        }
        return rules;
    }

    private Set<Item> last() {
        return behind.get(behind.size() - 1);
    }

    /** Names of tokens with one of which a KITCHEN goes on. */
    Set<String> goesOnWith() {
        Set<String> names = new TreeSet<>();
        for (Item item : last()) {
            if (!item.next().isEmpty() && !RULES.containsKey(item.next())) {
                names.add(item.next());
            }
        }
        return names;
    }

    boolean mayEnd() {
        for (Item item : last()) {
            if (item.made().equals("KITCHEN") && item.next().isEmpty()) {
                return true;
            }
        }
        return false;
    }

    /** False, and nothing done, if no KITCHEN goes on with this token. */
    boolean take(String token) {
        Set<Item> over = new LinkedHashSet<>();
        for (Item item : last()) {
            if (item.next().equals(token)) {
                over.add(item.further());
            }
        }
        if (over.isEmpty()) {
            return false;
        }
        behind.add(closed(over, behind.size()));
        return true;
    }

    private Set<Item> closed(Set<Item> begin, int at) {
        List<Item> open = new ArrayList<>(begin);
        Set<Item> all = new LinkedHashSet<>(begin);
        for (int k = 0; k < open.size(); k++) {
            Item item = open.get(k);
            List<Item> more = new ArrayList<>();
            if (item.next().isEmpty()) {
                complete(item, item.begun() == at ? all : behind.get(item.begun()), more);
            } else {
                for (List<String> rule : RULES.getOrDefault(item.next(), List.of())) {
                    more.add(new Item(item.next(), rule, 0, at));
                    if (rule.isEmpty()) {
                        more.add(item.further());
                    }
                }
            }
            for (Item one : more) {
                if (all.add(one)) {
                    open.add(one);
                }
            }
        }
        return all;
    }

    private static void complete(Item done, Set<Item> from, List<Item> more) {
        for (Item waiting : from) {
            if (waiting.next().equals(done.made())) {
                more.add(waiting.further());
            }
        }
    }
}
