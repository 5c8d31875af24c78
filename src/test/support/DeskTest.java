/** What the tests of the desk share: making desks, and telling the answers that are not due. */
abstract class DeskTest {
    static final int[] FAR_INTS = {
        Integer.MIN_VALUE, Integer.MIN_VALUE + 1, -1000, Integer.MAX_VALUE - 1, Integer.MAX_VALUE
    };

    private static int wrong = 0;
    private static String about = "";

    /** Names the part of the document that the checks from here on are about. */
    static void about(String part) {
        about = part;
    }

    static void finish() {
        System.out.println(wrong == 0 ? "all answers are as due" : wrong + " answers are not as due");
        if (wrong != 0) {
            System.exit(1);
        }
    }

    static void dueTyped(SpellDesk x, String letters) {
        due("length()", x.length(), letters.length());
        for (int i = 0; i < letters.length(); i++) {
            due("typed(" + i + ") of " + letters, x.typed(i), letters.charAt(i) - 'a');
        }
        due("typed(" + letters.length() + ") of " + letters, x.typed(letters.length()), -1);
    }

    static void dueWords(SpellDesk x, String... words) {
        due("words()", x.words(), words.length);
        for (int k = 0; k < words.length; k++) {
            String word = words[k];
            for (int i = 0; i < word.length(); i++) {
                due("letter(" + k + ", " + i + ") of " + word, x.letter(k, i), word.charAt(i) - 'a');
            }
            due("letter(" + k + ", " + word.length() + ") of " + word, x.letter(k, word.length()), -1);
        }
        due("letter(" + words.length + ", 0)", x.letter(words.length, 0), -1);
    }

    static void dueCounts(SpellDesk x, int... counts) {
        for (int k = 0; k < counts.length; k++) {
            due("count(" + k + ")", x.count(k), counts[k]);
        }
        due("count(" + counts.length + ")", x.count(counts.length), 0);
    }

    static void dueRank(SpellDesk x, String letters, int rank) {
        type(x, letters);
        due("rank() of " + letters, x.rank(), rank);
    }

    static void dueDistance(String letters, String word, int distance) {
        SpellDesk x = desk(word, 1);
        type(x, letters);
        due("distance(0) of " + letters + " and " + word, x.distance(0), distance);
    }

    static void dueSuggestions(SpellDesk x, int d, int... ranks) {
        for (int i = 0; i < ranks.length; i++) {
            due("suggest(" + i + ", " + d + ")", x.suggest(i, d), ranks[i]);
        }
        due("suggest(" + ranks.length + ", " + d + ")", x.suggest(ranks.length, d), -1);
        due("suggest(-1, " + d + ")", x.suggest(-1, d), -1);
    }

    static void dueCompletions(SpellDesk x, int... ranks) {
        for (int i = 0; i < ranks.length; i++) {
            due("complete(" + i + ")", x.complete(i), ranks[i]);
        }
        due("complete(" + ranks.length + ")", x.complete(ranks.length), -1);
        due("complete(-1)", x.complete(-1), -1);
    }

    static void dueRow(String letters, String word, String row) {
        SpellDesk x = desk(word, 1);
        type(x, letters);
        for (int j = 0; j < row.length(); j++) {
            due("edit(0, " + j + ") of " + letters + " to " + word, x.edit(0, j), "KCDA".indexOf(row.charAt(j)));
        }
        due("edit(0, " + row.length() + ") of " + letters + " to " + word, x.edit(0, row.length()), -1);
        due("edit(0, -1) of " + letters + " to " + word, x.edit(0, -1), -1);
    }

    static void dueDrops(String letters, int... lists) {
        SpellDesk x = new SpellDesk();
        type(x, letters);
        for (int n = 0; n < lists.length; n++) {
            due("drops(" + n + ") of " + letters, x.drops(n), lists[n]);
        }
        due("drops(" + lists.length + ") of " + letters, x.drops(lists.length), 0);
        due("drops(-1) of " + letters, x.drops(-1), 0);
    }

    /** A new desk that learned words, each given with its count behind it. */
    static SpellDesk desk(Object... wordsAndCounts) {
        SpellDesk x = new SpellDesk();
        for (int i = 0; i < wordsAndCounts.length; i += 2) {
            String word = (String) wordsAndCounts[i];
            due("learn " + word, learn(x, word, (Integer) wordsAndCounts[i + 1]), 0);
        }
        return x;
    }

    /** A new desk with 24 words of one letter, the k-th learned k + 1 times and the last one typed. */
    static SpellDesk full() {
        SpellDesk x = new SpellDesk();
        for (int letter = 0; letter < 24; letter++) {
            x.wipe();
            due("key(" + letter + ")", x.key(letter), true);
            due("learn letter " + letter, x.learn(letter + 1), 0);
        }
        return x;
    }

    static int learn(SpellDesk x, String letters, int n) {
        type(x, letters);
        return x.learn(n);
    }

    static void type(SpellDesk x, String letters) {
        x.wipe();
        for (int i = 0; i < letters.length(); i++) {
            due("key of " + letters, x.key(letters.charAt(i) - 'a'), true);
        }
    }

    static void due(String call, boolean got, boolean want) {
        due(call, got ? 1 : 0, want ? 1 : 0);
    }

    static void due(String call, int got, int want) {
        if (got != want) {
            wrong++;
            System.out.println(about + ": " + call + " answered " + got + ", due is " + want);
        }
    }
}
