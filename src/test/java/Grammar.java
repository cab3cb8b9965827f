import java.util.ArrayList;
import java.util.HashMap;
import java.util.LinkedHashSet;
import java.util.List;
import java.util.Map;
import java.util.Set;
import java.util.regex.Matcher;
import java.util.regex.Pattern;

/**
 * FAULTS found another way than the program's: LAWS by an Earley recognizer over the document's
 * grammar, DITCHES and RAINS by regular expressions that tell whether a beginning can go on.
 */
final class Grammar {
    private static final int MOST_WITHIN = 6;
    private static final Map<String, List<String[]>> RULES = new HashMap<>();
    private static final Pattern DITCH = Pattern.compile(" *(?:" + reach() + ", *){1,19}" + reach());
    private static final Pattern RAIN = Pattern.compile(" *(?:[0-9]{1,2} *, *){0,29}[0-9]{1,2} *");
    private static final Pattern NUMBER = Pattern.compile("([bwof]) *([0-9]+)");

    static {
        rule("LAW", "CLAUSE");
        rule("LAW", "LAW", ";", "CLAUSE");
        rule("CLAUSE", "y", ":", "COND0", "?", "SUM0");
        rule("CLAUSE", "y", ":", "SUM0");
        // A digit is S where a number may begin, D right behind another digit.
        rule("NUM", "S");
        rule("NUM", "S", "D");
        rule("NUM", "S", "D", "D");
        rule("NUM", "S", "D", "D", "D");
        for (int k = 0; k <= MOST_WITHIN; k++) {
            rule("COND" + k, "TRUTH" + k);
            rule("COND" + k, "COND" + k, "|", "TRUTH" + k);
            rule("TRUTH" + k, "UNIT" + k);
            rule("TRUTH" + k, "TRUTH" + k, "&", "UNIT" + k);
            for (String sign : new String[] {"=", "<", ">"}) {
                rule("UNIT" + k, "SUM" + k, sign, "SUM" + k);
            }
            rule("SUM" + k, "TERM" + k);
            rule("SUM" + k, "SUM" + k, "+", "TERM" + k);
            rule("SUM" + k, "SUM" + k, "-", "TERM" + k);
            rule("TERM" + k, "ATOM" + k);
            rule("TERM" + k, "TERM" + k, "*", "ATOM" + k);
            rule("TERM" + k, "TERM" + k, "/", "ATOM" + k);
            rule("ATOM" + k, "NUM");
            for (char letter : "dhrwmsqn".toCharArray()) {
                rule("ATOM" + k, String.valueOf(letter));
            }
            if (k < MOST_WITHIN) {
                rule("UNIT" + k, "!", "UNIT" + (k + 1));
                rule("UNIT" + k, "(", "COND" + (k + 1), ")");
                rule("ATOM" + k, "[", "SUM" + (k + 1), "]");
            }
        }
    }

    private record Item(String head, String[] body, int dot, int from) {
        String key() {
            return head + "|" + String.join(" ", body) + "|" + dot + "|" + from;
        }

        String ahead() {
            return dot < body.length ? body[dot] : null;
        }
    }

    private static void rule(String head, String... body) {
        RULES.computeIfAbsent(head, h -> new ArrayList<>()).add(body);
    }

    /** A reach: a soil, then any of the items, each once at most, in any order. */
    private static String reach() {
        return "[cst] *" + items("bwof");
    }

    private static String items(String left) {
        if (left.isEmpty()) {
            return "";
        }
        List<String> ways = new ArrayList<>();
        for (char letter : left.toCharArray()) {
            ways.add(letter + " *[0-9]{1,2} *" + items(left.replace(String.valueOf(letter), "")));
        }
        return "(?:" + String.join("|", ways) + ")?";
    }

    static int fault(int sort, String text) {
        if (sort == 0) {
            return ditchFault(text);
        }
        return sort == 1 ? lawFault(text) : patternFault(RAIN, text);
    }

    private static int patternFault(Pattern pattern, String text) {
        for (int i = 1; i <= text.length(); i++) {
            Matcher m = pattern.matcher(text.substring(0, i));
            if (!m.matches() && !m.hitEnd()) {
                return i - 1;
            }
        }
        return pattern.matcher(text).matches() ? -1 : text.length();
    }

    private static int ditchFault(String text) {
        int fault = patternFault(DITCH, text);
        int end = fault == -1 ? text.length() : fault;
        Matcher m = NUMBER.matcher(text.substring(0, end));
        while (m.find()) {
            boolean third = m.end() == fault && fault < text.length() && Character.isDigit(text.charAt(fault));
            int value = Integer.parseInt(m.group(2));
            String item = m.group(1);
            boolean out = item.equals("w") ? value < 1 || value > 9 : item.equals("o") && value > 5;
            if (out && !third) {
                return m.end() - 1;
            }
        }
        return fault;
    }

    private static int lawFault(String text) {
        List<Map<String, Item>> sets = new ArrayList<>();
        sets.add(new HashMap<>());
        Item goal = new Item("GOAL", new String[] {"LAW"}, 0, 0);
        sets.get(0).put(goal.key(), goal);
        close(sets, 0);
        boolean digitAhead = false;
        for (int i = 0; i < text.length(); i++) {
            char sign = text.charAt(i);
            if (sign == ' ') {
                digitAhead = false;
                continue;
            }
            boolean digit = sign >= '0' && sign <= '9';
            String terminal = digit ? (digitAhead ? "D" : "S") : String.valueOf(sign);
            digitAhead = digit;
            Map<String, Item> scanned = new HashMap<>();
            for (Item item : sets.get(sets.size() - 1).values()) {
                if (terminal.equals(item.ahead())) {
                    Item moved = new Item(item.head(), item.body(), item.dot() + 1, item.from());
                    scanned.put(moved.key(), moved);
                }
            }
            if (scanned.isEmpty() || Character.isUpperCase(sign)) {
                return i;
            }
            sets.add(scanned);
            close(sets, sets.size() - 1);
        }
        Item whole = new Item("GOAL", new String[] {"LAW"}, 1, 0);
        return sets.get(sets.size() - 1).containsKey(whole.key()) ? -1 : text.length();
    }

    private static void close(List<Map<String, Item>> sets, int at) {
        Map<String, Item> set = sets.get(at);
        List<Item> work = new ArrayList<>(set.values());
        Set<String> predicted = new LinkedHashSet<>();
        for (int i = 0; i < work.size(); i++) {
            Item item = work.get(i);
            String ahead = item.ahead();
            if (ahead != null) {
                if (RULES.containsKey(ahead) && predicted.add(ahead)) {
                    for (String[] body : RULES.get(ahead)) {
                        put(set, work, new Item(ahead, body, 0, at));
                    }
                }
                continue;
            }
            for (Item waiting : new ArrayList<>(sets.get(item.from()).values())) {
                if (item.head().equals(waiting.ahead())) {
                    put(set, work, new Item(waiting.head(), waiting.body(), waiting.dot() + 1, waiting.from()));
                }
            }
        }
    }

    private static void put(Map<String, Item> set, List<Item> work, Item item) {
        if (set.putIfAbsent(item.key(), item) == null) {
            work.add(item);
        }
    }
}
