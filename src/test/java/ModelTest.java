import java.util.ArrayList;
import java.util.Comparator;
import java.util.HashMap;
import java.util.HashSet;
import java.util.List;
import java.util.Map;
import java.util.Set;
import java.util.TreeMap;

/**
 * Long runs of calls, each answer compared with that of a model that follows the
 * document's words by trying everything out, without any of the program's tables.
 */
public final class ModelTest {
    private static final int CALLS_OF_AN_OBJECT = 512;
    private static final int RUNS = 600;

    private static int wrong = 0;

    public static void main(String[] args) {
        allShortPairs();
        for (int run = 0; run < RUNS && wrong < 20; run++) {
            new Run(run).go();
        }
        System.out.println(wrong == 0 ? "all answers are as due" : wrong + " answers are not as due");
        if (wrong != 0) {
            System.exit(1);
        }
    }

    /** Every typed list and every word of few letters: distance, row and drops. */
    private static void allShortPairs() {
        List<String> lists = listsOver("abc", 4);
        for (String word : lists) {
            if (word.isEmpty()) {
                continue;
            }
            for (String letters : lists) {
                SpellDesk x = new SpellDesk();
                Model m = new Model();
                learnBoth(x, m, word);
                typeBoth(x, m, letters);
                due(letters + " to " + word + ": distance(0)", x.distance(0), m.distance(0));
                for (int j = 0; j <= 9; j++) {
                    due(letters + " to " + word + ": edit(0, " + j + ")", x.edit(0, j), m.edit(0, j));
                }
                due(letters + " and " + word + ": complete(0)", x.complete(0), m.complete(0));
                due(letters + " and " + word + ": rank()", x.rank(), m.rank());
            }
        }
        for (String letters : listsOver("abc", 7)) {
            SpellDesk x = new SpellDesk();
            Model m = new Model();
            typeBoth(x, m, letters);
            for (int n = -1; n <= 8; n++) {
                due(letters + ": drops(" + n + ")", x.drops(n), m.drops(n));
            }
        }
    }

    private static void learnBoth(SpellDesk x, Model m, String word) {
        typeBoth(x, m, word);
        due("learn(1) of " + word, x.learn(1), m.learn(1));
    }

    private static void typeBoth(SpellDesk x, Model m, String letters) {
        x.wipe();
        m.wipe();
        for (int i = 0; i < letters.length(); i++) {
            due("key of " + letters, x.key(letters.charAt(i) - 'a') ? 1 : 0, m.key(letters.charAt(i) - 'a') ? 1 : 0);
        }
    }

    private static List<String> listsOver(String alphabet, int most) {
        List<String> lists = new ArrayList<>();
        lists.add("");
        for (int at = 0; at < lists.size(); at++) {
            String start = lists.get(at);
            for (int i = 0; i < alphabet.length() && start.length() < most; i++) {
                lists.add(start + alphabet.charAt(i));
            }
        }
        return lists;
    }

    private static void due(String call, int got, int want) {
        if (got != want) {
            wrong++;
            System.out.println(call + " answered " + got + ", due is " + want);
        }
    }

    /** One object's calls, chosen by a fixed row of numbers that the run's number starts. */
    private static final class Run {
        private final int number;
        private final int alphabet;
        private final SpellDesk x = new SpellDesk();
        private final Model m = new Model();
        private long state;

        Run(int number) {
            this.number = number;
            this.alphabet = number % 4 == 0 ? 26 : 2 + number % 4;
            this.state = number * 7919L + 17;
        }

        void go() {
            for (int call = 0; call < CALLS_OF_AN_OBJECT; call++) {
                if (below(100) < 60) {
                    change();
                } else {
                    ask();
                }
            }
        }

        private void change() {
            int which = below(100);
            if (which < 50) {
                int letter = below(20) == 0 ? oddInt() : below(alphabet);
                check("key(" + letter + ")", x.key(letter) ? 1 : 0, m.key(letter) ? 1 : 0);
            } else if (which < 62) {
                check("back()", x.back() ? 1 : 0, m.back() ? 1 : 0);
            } else if (which < 70) {
                x.wipe();
                m.wipe();
            } else if (which < 97) {
                int n = below(8) == 0 ? oddTimes() : 1 + below(4);
                check("learn(" + n + ")", x.learn(n), m.learn(n));
            } else {
                int k = someRank();
                check("forget(" + k + ")", x.forget(k) ? 1 : 0, m.forget(k) ? 1 : 0);
            }
        }

        private void ask() {
            int k = someRank();
            int i = below(12) == 0 ? oddInt() : below(12) - 1;
            int d = below(12) == 0 ? oddInt() : below(11) - 1;
            switch (below(13)) {
                case 0: check("length()", x.length(), m.length()); break;
                case 1: check("typed(" + i + ")", x.typed(i), m.typed(i)); break;
                case 2: check("words()", x.words(), m.words()); break;
                case 3: check("letter(" + k + ", " + i + ")", x.letter(k, i), m.letter(k, i)); break;
                case 4: check("count(" + k + ")", x.count(k), m.count(k)); break;
                case 5: check("rank()", x.rank(), m.rank()); break;
                case 6: check("distance(" + k + ")", x.distance(k), m.distance(k)); break;
                case 7: check("near(" + d + ")", x.near(d), m.near(d)); break;
                case 8: check("suggest(" + k + ", " + d + ")", x.suggest(k, d), m.suggest(k, d)); break;
                case 9: check("suggest(" + i + ", " + d + ")", x.suggest(i, d), m.suggest(i, d)); break;
                case 10: check("complete(" + k + ")", x.complete(k), m.complete(k)); break;
                case 11: check("edit(" + k + ", " + i + ")", x.edit(k, i), m.edit(k, i)); break;
                default: check("drops(" + i + ")", x.drops(i), m.drops(i)); break;
            }
        }

        private int someRank() {
            if (below(12) == 0) {
                return oddInt();
            }
            return below(m.words() + 2) - (below(10) == 0 ? 1 : 0);
        }

        private int oddInt() {
            int[] odd = {Integer.MIN_VALUE, -2, -1, 8, 10, 23, 24, 25, 26, 27, Integer.MAX_VALUE};
            return odd[below(odd.length)];
        }

        private int oddTimes() {
            int[] odd = {Integer.MIN_VALUE, -1, 0, 999998, 999999, 1000000, 1000001, Integer.MAX_VALUE};
            return odd[below(odd.length)];
        }

        private int below(int bound) {
            state = state * 6364136223846793005L + 1442695040888963407L;
            return (int) ((state >>> 33) % bound);
        }

        private void check(String call, int got, int want) {
            due("run " + number + ", " + m.show() + ": " + call, got, want);
        }
    }

    /** The document's words in their plainest form; letters are the characters a to z. */
    private static final class Model {
        private static final Map<String, String> ROWS = new HashMap<>();

        private String typed = "";
        private final TreeMap<String, Integer> counts = new TreeMap<>();

        boolean key(int letter) {
            if (letter < 0 || letter > 25 || typed.length() == 10) {
                return false;
            }
            typed += (char) ('a' + letter);
            return true;
        }

        boolean back() {
            if (typed.isEmpty()) {
                return false;
            }
            typed = typed.substring(0, typed.length() - 1);
            return true;
        }

        void wipe() {
            typed = "";
        }

        int length() {
            return typed.length();
        }

        int typed(int i) {
            return letterOf(typed, i);
        }

        int learn(int n) {
            if (n < 1 || n > 1000000) {
                return -1;
            }
            if (typed.isEmpty() || typed.length() > 8) {
                return -2;
            }
            if (counts.containsKey(typed)) {
                counts.put(typed, Math.min(1000000, counts.get(typed) + n));
                return 1;
            }
            if (counts.size() == 24) {
                return -3;
            }
            counts.put(typed, n);
            return 0;
        }

        boolean forget(int k) {
            String word = word(k);
            if (word == null) {
                return false;
            }
            counts.remove(word);
            return true;
        }

        int words() {
            return counts.size();
        }

        int letter(int k, int i) {
            String word = word(k);
            return word == null ? -1 : letterOf(word, i);
        }

        int count(int k) {
            String word = word(k);
            return word == null ? 0 : counts.get(word);
        }

        int rank() {
            return ordered().indexOf(typed);
        }

        int distance(int k) {
            String word = word(k);
            return word == null ? -1 : cost(word);
        }

        int near(int d) {
            return within(d).size();
        }

        int suggest(int i, int d) {
            List<String> found = within(d);
            found.sort(Comparator.<String>comparingInt(this::cost)
                .thenComparing(counts::get, Comparator.reverseOrder())
                .thenComparing(Comparator.<String>naturalOrder()));
            return rankOf(found, i);
        }

        int complete(int i) {
            List<String> found = ordered();
            found.removeIf(word -> !word.startsWith(typed));
            found.sort(Comparator.<String, Integer>comparing(counts::get, Comparator.reverseOrder())
                .thenComparing(Comparator.<String>naturalOrder()));
            return rankOf(found, i);
        }

        int edit(int k, int j) {
            String word = word(k);
            if (word == null) {
                return -1;
            }
            String row = row(typed, word);
            return j < 0 || j >= row.length() ? -1 : "KCDA".indexOf(row.charAt(j));
        }

        int drops(int n) {
            Set<String> left = new HashSet<>();
            for (int taken = 0; taken < 1 << typed.length(); taken++) {
                if (Integer.bitCount(taken) == n) {
                    left.add(without(taken));
                }
            }
            return left.size();
        }

        String show() {
            return typed + " " + counts;
        }

        private String without(int taken) {
            StringBuilder rest = new StringBuilder();
            for (int i = 0; i < typed.length(); i++) {
                if ((taken >> i & 1) == 0) {
                    rest.append(typed.charAt(i));
                }
            }
            return rest.toString();
        }

        private List<String> ordered() {
            return new ArrayList<>(counts.keySet());
        }

        private String word(int k) {
            return k < 0 || k >= counts.size() ? null : ordered().get(k);
        }

        private int rankOf(List<String> found, int i) {
            return i < 0 || i >= found.size() ? -1 : ordered().indexOf(found.get(i));
        }

        private List<String> within(int d) {
            List<String> found = ordered();
            found.removeIf(word -> cost(word) > d);
            return found;
        }

        private int cost(String word) {
            return row(typed, word).replace("K", "").length();
        }

        private static int letterOf(String letters, int i) {
            return i < 0 || i >= letters.length() ? -1 : letters.charAt(i) - 'a';
        }

        private static String row(String from, String to) {
            return ROWS.computeIfAbsent(from + " " + to, pair -> firstRow(from, to));
        }

        private static String firstRow(String from, String to) {
            for (int cost = 0; ; cost++) {
                String row = rowOfCost(from, to, cost);
                if (row != null) {
                    return row;
                }
            }
        }

        /** The first row of exactly this cost, trying the kinds of edits in their order. */
        private static String rowOfCost(String from, String to, int cost) {
            if (from.isEmpty() && to.isEmpty()) {
                return cost == 0 ? "" : null;
            }
            if (Math.abs(from.length() - to.length()) > cost) {
                return null;
            }
            String row = null;
            if (!from.isEmpty() && !to.isEmpty()) {
                boolean same = from.charAt(0) == to.charAt(0);
                row = behind(same ? "K" : "C", rowOfCost(from.substring(1), to.substring(1), same ? cost : cost - 1));
            }
            if (row == null && !from.isEmpty()) {
                row = behind("D", rowOfCost(from.substring(1), to, cost - 1));
            }
            if (row == null && !to.isEmpty()) {
                row = behind("A", rowOfCost(from, to.substring(1), cost - 1));
            }
            return row;
        }

        private static String behind(String edit, String rest) {
            return rest == null ? null : edit + rest;
        }
    }
}
