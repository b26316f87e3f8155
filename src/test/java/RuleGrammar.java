import java.util.ArrayList;
import java.util.HashMap;
import java.util.HashSet;
import java.util.List;
import java.util.Map;
import java.util.Set;

/**
 * The document's grammar of rules, written down as such, and Earley's way to tell the first sign at which
 * no text of a grammar can go on. It shares nothing with how the class reads rules.
 */
final class RuleGrammar {
    private static final int DEEPEST = 6;
    /** From a name to what it may be; a name is a letter and a depth, all else are signs. */
    private static final Map<String, List<String[]>> MAY_BE = new HashMap<>();

    private record Item(String name, String[] parts, int done, int from) {
        String next() {
            return done < parts.length ? parts[done] : null;
        }

        Item further() {
            return new Item(name, parts, done + 1, from);
        }
    }

    static {
        define("R", "L", "R ; L");
        define("L", "y : S0", "y : C0 ? S0");
        define("Q", "=", "<", ">");
        define("N", "first", "first other", "first other other", "first other other other");
        for (int k = 0; k <= DEEPEST; k++) {
            define("C" + k, "T" + k, "C" + k + " | T" + k);
            define("T" + k, "U" + k, "T" + k + " & U" + k);
            define("U" + k, "S" + k + " Q S" + k);
            define("S" + k, "M" + k, "S" + k + " + M" + k, "S" + k + " - M" + k);
            define("M" + k, "A" + k, "M" + k + " * A" + k, "M" + k + " / A" + k);
            define("A" + k, "N", "d", "h", "c", "f", "o", "k");
            if (k < DEEPEST) {
                define("U" + k, "! U" + (k + 1), "( C" + (k + 1) + " )");
                define("A" + k, "[ S" + (k + 1) + " ]");
            }
        }
    }

    private RuleGrammar() {
    }

    private static void define(String name, String... ways) {
        for (String way : ways) {
            MAY_BE.computeIfAbsent(name, n -> new ArrayList<>()).add(way.split(" "));
        }
    }

    static int fault(String text) {
        List<List<Item>> sets = new ArrayList<>();
        List<Item> set = new ArrayList<>();
        for (String[] parts : MAY_BE.get("R")) {
            set.add(new Item("R", parts, 0, 0));
        }
        sets.add(set);
        for (int at = 0; at < text.length(); at++) {
            if (text.charAt(at) == ' ') {
                continue;
            }
            complete(sets);
            List<Item> after = new ArrayList<>();
            for (Item item : sets.get(sets.size() - 1)) {
                if (sign(text, at).equals(item.next())) {
                    after.add(item.further());
                }
            }
            if (after.isEmpty()) {
                return at;
            }
            sets.add(after);
        }
        complete(sets);
        for (Item item : sets.get(sets.size() - 1)) {
            if (item.name().equals("R") && item.next() == null && item.from() == 0) {
                return -1;
            }
        }
        return text.length();
    }

    /** A digit right behind another one goes on with its number. */
    private static String sign(String text, int at) {
        char sign = text.charAt(at);
        if (sign < '0' || sign > '9') {
            return String.valueOf(sign);
        }
        boolean goesOn = at > 0 && text.charAt(at - 1) >= '0' && text.charAt(at - 1) <= '9';
        return goesOn ? "other" : "first";
    }

    private static void complete(List<List<Item>> sets) {
        int here = sets.size() - 1;
        List<Item> set = sets.get(here);
        Set<String> seen = new HashSet<>();
        List<Item> whole = new ArrayList<>();
        for (Item item : set) {
            if (seen.add(key(item))) {
                whole.add(item);
            }
        }
        for (int i = 0; i < whole.size(); i++) {
            Item item = whole.get(i);
            List<Item> more = new ArrayList<>();
            if (item.next() == null) {
                for (Item waiting : item.from() == here ? whole : sets.get(item.from())) {
                    if (item.name().equals(waiting.next())) {
                        more.add(waiting.further());
                    }
                }
            } else {
                for (String[] parts : MAY_BE.getOrDefault(item.next(), List.of())) {
                    more.add(new Item(item.next(), parts, 0, here));
                }
            }
            for (Item one : more) {
                if (seen.add(key(one))) {
                    whole.add(one);
                }
            }
        }
        sets.set(here, whole);
    }

    private static String key(Item item) {
        return item.name() + System.identityHashCode(item.parts()) + "." + item.done() + "." + item.from();
    }
}
