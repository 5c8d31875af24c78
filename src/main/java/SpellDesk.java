/**
 * A spelling desk: a dictionary of words with counts, a list of letters that is
 * being typed, and for it the words at a small distance, the best suggestions,
 * completions, and the edits that lead to a word.
 */
public final class SpellDesk {
    private static final int ALPHABET = 26;
    private static final int MOST_TYPED = 10;
    private static final int MOST_IN_WORD = 8;
    private static final int MOST_WORDS = 24;
    private static final int MOST_TIMES = 1000000;
    private static final int MOST_EDITS = MOST_TYPED + MOST_IN_WORD;

    private static final int NONE = -1;

    private static final int NEW_WORD = 0;
    private static final int KNOWN_WORD = 1;
    private static final int WRONG_TIMES = -1;
    private static final int WRONG_LENGTH = -2;
    private static final int DICTIONARY_FULL = -3;

    private static final int KEEP = 0;
    private static final int CHANGE = 1;
    private static final int DROP = 2;
    private static final int ADD = 3;

    private final Letters input;
    private final Dictionary dictionary;
    private final EditTable edits;
    private final DropTable dropTable;
    private final int[] distances;

    public SpellDesk() {
        input = new Letters(MOST_TYPED);
        dictionary = new Dictionary();
        edits = new EditTable();
        dropTable = new DropTable();
        distances = new int[MOST_WORDS];
    }

    public boolean key(int letter) {
        return input.append(letter);
    }

    public boolean back() {
        return input.removeLast();
    }

    public void wipe() {
        input.clear();
    }

    public int length() {
        return input.size;
    }

    public int typed(int i) {
        return input.at(i);
    }

    public int learn(int n) {
        if (n < 1 || n > MOST_TIMES) {
            return WRONG_TIMES;
        }
        if (input.size < 1 || input.size > MOST_IN_WORD) {
            return WRONG_LENGTH;
        }
        int k = dictionary.find(input);
        if (k != NONE) {
            dictionary.addTimes(k, n);
            return KNOWN_WORD;
        }
        return dictionary.insert(input, n) ? NEW_WORD : DICTIONARY_FULL;
    }

    public boolean forget(int k) {
        return dictionary.remove(k);
    }

    public int words() {
        return dictionary.size;
    }

    public int letter(int k, int i) {
        return dictionary.has(k) ? dictionary.lettersOf(k).at(i) : NONE;
    }

    public int count(int k) {
        return dictionary.has(k) ? dictionary.timesOf(k) : 0;
    }

    public int rank() {
        return dictionary.find(input);
    }

    public int distance(int k) {
        return dictionary.has(k) ? edits.measure(input, dictionary.lettersOf(k)) : NONE;
    }

    public int near(int d) {
        measureAll();
        int found = 0;
        for (int k = 0; k < dictionary.size; k++) {
            if (distances[k] <= d) {
                found++;
            }
        }
        return found;
    }

    public int suggest(int i, int d) {
        measureAll();
        for (int k = 0; k < dictionary.size; k++) {
            if (distances[k] <= d && placeAmongSuggestions(k) == i) {
                return k;
            }
        }
        return NONE;
    }

    public int complete(int i) {
        for (int k = 0; k < dictionary.size; k++) {
            if (isCompletion(k) && placeAmongCompletions(k) == i) {
                return k;
            }
        }
        return NONE;
    }

    public int edit(int k, int j) {
        return dictionary.has(k) ? edits.editAt(input, dictionary.lettersOf(k), j) : NONE;
    }

    public int drops(int n) {
        if (n < 0 || n > input.size) {
            return 0;
        }
        return dropTable.listsOf(input, input.size - n);
    }

    private void measureAll() {
        for (int k = 0; k < dictionary.size; k++) {
            distances[k] = edits.measure(input, dictionary.lettersOf(k));
        }
    }

    // The limit d plays no part here: whatever is suggested before a word is no
    // farther than that word, so it is within every limit that the word is within.
    private int placeAmongSuggestions(int k) {
        int before = 0;
        for (int other = 0; other < dictionary.size; other++) {
            if (isSuggestedBefore(other, k)) {
                before++;
            }
        }
        return before;
    }

    private boolean isSuggestedBefore(int a, int b) {
        if (distances[a] != distances[b]) {
            return distances[a] < distances[b];
        }
        return dictionary.isPreferred(a, b);
    }

    private int placeAmongCompletions(int k) {
        int before = 0;
        for (int other = 0; other < dictionary.size; other++) {
            if (isCompletion(other) && dictionary.isPreferred(other, k)) {
                before++;
            }
        }
        return before;
    }

    private boolean isCompletion(int k) {
        return dictionary.lettersOf(k).beginsWith(input);
    }

    /** A list of letters with room for a fixed number of them. */
    private static final class Letters {
        private final int[] row;
        private int size;

        Letters(int most) {
            row = new int[most];
            size = 0;
        }

        int at(int i) {
            return i >= 0 && i < size ? row[i] : NONE;
        }

        boolean append(int letter) {
            if (letter < 0 || letter >= ALPHABET || size >= row.length) {
                return false;
            }
            row[size] = letter;
            size++;
            return true;
        }

        boolean removeLast() {
            if (size == 0) {
                return false;
            }
            size--;
            return true;
        }

        void clear() {
            size = 0;
        }

        void copyFrom(Letters other) {
            clear();
            for (int i = 0; i < other.size; i++) {
                append(other.at(i));
            }
        }

        boolean beginsWith(Letters start) {
            for (int i = 0; i < start.size; i++) {
                if (at(i) != start.at(i)) {
                    return false;
                }
            }
            return true;
        }

        boolean isSameAs(Letters other) {
            return size == other.size && beginsWith(other);
        }

        // Behind its end a list answers NONE, which is less than every letter: so
        // the shorter list comes first where one is the beginning of the other.
        boolean isBefore(Letters other) {
            for (int i = 0; i < other.size; i++) {
                if (at(i) != other.at(i)) {
                    return at(i) < other.at(i);
                }
            }
            return false;
        }
    }

    /** A word of the dictionary: its letters and how many times it was learned. */
    private static final class Word {
        private final Letters letters;
        private int times;

        Word() {
            letters = new Letters(MOST_IN_WORD);
            times = 0;
        }
    }

    /** The words, held in the order of words, so that a word's place is its rank. */
    private static final class Dictionary {
        // All words are made at once and used again: those from size on are spare.
        private final Word[] row;
        private int size;

        Dictionary() {
            row = new Word[MOST_WORDS];
            for (int k = 0; k < MOST_WORDS; k++) {
                row[k] = new Word();
            }
            size = 0;
        }

        boolean has(int k) {
            return k >= 0 && k < size;
        }

        // This and the other methods that name a word are for ranks that has() affirms.
        Letters lettersOf(int k) {
            return row[k].letters;
        }

        int timesOf(int k) {
            return row[k].times;
        }

        void addTimes(int k, int n) {
            row[k].times = Math.min(MOST_TIMES, row[k].times + n);
        }

        // Ranks follow the order of words, so they decide between equal counts.
        boolean isPreferred(int a, int b) {
            if (row[a].times != row[b].times) {
                return row[a].times > row[b].times;
            }
            return a < b;
        }

        int find(Letters letters) {
            for (int k = 0; k < size; k++) {
                if (row[k].letters.isSameAs(letters)) {
                    return k;
                }
            }
            return NONE;
        }

        boolean insert(Letters letters, int times) {
            if (size >= MOST_WORDS) {
                return false;
            }
            Word word = row[size];
            word.letters.copyFrom(letters);
            word.times = times;
            int place = placeFor(letters);
            for (int k = size; k > place; k--) {
                row[k] = row[k - 1];
            }
            row[place] = word;
            size++;
            return true;
        }

        boolean remove(int k) {
            if (!has(k)) {
                return false;
            }
            Word word = row[k];
            size--;
            for (int after = k; after < size; after++) {
                row[after] = row[after + 1];
            }
            row[size] = word;
            return true;
        }

        private int placeFor(Letters letters) {
            int place = 0;
            for (int k = 0; k < size; k++) {
                if (row[k].letters.isBefore(letters)) {
                    place++;
                }
            }
            return place;
        }
    }

    /** Least costs of edits, and the row of edits that has the least cost. */
    private static final class EditTable {
        // cost[i][j] leads from what is typed, from letter i on, to the word, from
        // letter j on: the row is told from its first edit, so rests are what counts.
        private final int[][] cost;

        EditTable() {
            cost = new int[MOST_TYPED + 1][MOST_IN_WORD + 1];
        }

        int measure(Letters from, Letters to) {
            for (int i = from.size; i >= 0; i--) {
                for (int j = to.size; j >= 0; j--) {
                    cost[i][j] = leastCost(from, i, to, j);
                }
            }
            return cost[0][0];
        }

        int editAt(Letters from, Letters to, int place) {
            measure(from, to);
            int i = 0;
            int j = 0;
            for (int step = 0; step < MOST_EDITS; step++) {
                if (i == from.size && j == to.size) {
                    return NONE;
                }
                int edit = firstEdit(from, i, to, j);
                if (step == place) {
                    return edit;
                }
                i = edit == ADD ? i : i + 1;
                j = edit == DROP ? j : j + 1;
            }
            return NONE;
        }

        private int leastCost(Letters from, int i, Letters to, int j) {
            if (i == from.size) {
                return to.size - j;
            }
            if (j == to.size) {
                return from.size - i;
            }
            int withBoth = cost[i + 1][j + 1] + (from.at(i) == to.at(j) ? 0 : 1);
            int withOne = 1 + Math.min(cost[i + 1][j], cost[i][j + 1]);
            return Math.min(withBoth, withOne);
        }

        private int firstEdit(Letters from, int i, Letters to, int j) {
            if (i == from.size) {
                return ADD;
            }
            if (j == to.size) {
                return DROP;
            }
            boolean same = from.at(i) == to.at(j);
            if (same && cost[i][j] == cost[i + 1][j + 1]) {
                return KEEP;
            }
            if (!same && cost[i][j] == 1 + cost[i + 1][j + 1]) {
                return CHANGE;
            }
            return cost[i][j] == 1 + cost[i + 1][j] ? DROP : ADD;
        }
    }

    /** How many different lists are left when letters are taken out. */
    private static final class DropTable {
        // lists[end][left]: the different lists of so many letters that are left of
        // the first so many letters.
        private final int[][] lists;

        DropTable() {
            lists = new int[MOST_TYPED + 1][MOST_TYPED + 1];
        }

        int listsOf(Letters letters, int wanted) {
            for (int end = 0; end <= letters.size; end++) {
                lists[end][0] = 1;
                for (int left = 1; left <= wanted; left++) {
                    lists[end][left] = end == 0 ? 0 : listsWithin(letters, end, left);
                }
            }
            return lists[letters.size][wanted];
        }

        // A list that ends with the last letter is new, unless it could end with the
        // same letter at an earlier place.
        private int listsWithin(Letters letters, int end, int left) {
            int last = end - 1;
            int found = lists[last][left] + lists[last][left - 1];
            int earlier = placeBefore(letters, last);
            return earlier == NONE ? found : found - lists[earlier][left - 1];
        }

        private int placeBefore(Letters letters, int place) {
            for (int i = place - 1; i >= 0; i--) {
                if (letters.at(i) == letters.at(place)) {
                    return i;
                }
            }
            return NONE;
        }
    }
}
