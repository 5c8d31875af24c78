/** For each promise of the document: ordinary inputs, the edges that it names, and wrong inputs. */
public final class PromiseTest extends DeskTest {
    public static void main(String[] args) {
        about("promise 1");
        newObject();
        newObjectsAreApart();
        about("promise 2");
        key();
        about("promise 3");
        back();
        about("promise 4");
        wipe();
        about("promise 5");
        length();
        about("promise 6");
        typed();
        about("promise 7");
        learnNewAndKnown();
        learnToTheGreatestCount();
        learnRefused();
        learnWhenFull();
        about("promise 8");
        forget();
        forgetAndLearnAgain();
        about("promise 9");
        words();
        about("promise 10");
        letter();
        orderOfWords();
        about("promise 11");
        count();
        about("promise 12");
        rank();
        about("promise 13");
        distance();
        about("promise 14");
        near();
        about("promise 15");
        suggest();
        suggestWithEqualDistances();
        about("promise 16");
        complete();
        about("promise 17");
        edit();
        editPrefersEarlierKinds();
        editOfTheLongestRows();
        about("promise 18");
        drops();
        about("all promises");
        askingChangesNothing();
        finish();
    }

    private static void newObject() {
        SpellDesk x = new SpellDesk();
        due("words()", x.words(), 0);
        due("length()", x.length(), 0);
        due("typed(0)", x.typed(0), -1);
        due("letter(0, 0)", x.letter(0, 0), -1);
        due("count(0)", x.count(0), 0);
        due("rank()", x.rank(), -1);
        due("distance(0)", x.distance(0), -1);
        due("near(100)", x.near(100), 0);
        due("suggest(0, 100)", x.suggest(0, 100), -1);
        due("complete(0)", x.complete(0), -1);
        due("edit(0, 0)", x.edit(0, 0), -1);
        due("drops(0)", x.drops(0), 1);
        due("drops(1)", x.drops(1), 0);
        due("back()", x.back(), false);
        due("forget(0)", x.forget(0), false);
        due("learn(1)", x.learn(1), -2);
    }

    private static void newObjectsAreApart() {
        SpellDesk x = desk("cat", 5);
        SpellDesk y = new SpellDesk();
        due("words() of another", y.words(), 0);
        due("length() of another", y.length(), 0);
        learn(y, "dog", 7);
        dueWords(x, "cat");
        dueTyped(x, "cat");
        due("count(0)", x.count(0), 5);
    }

    private static void key() {
        SpellDesk x = new SpellDesk();
        due("key(-1)", x.key(-1), false);
        due("key(26)", x.key(26), false);
        for (int far : FAR_INTS) {
            due("key(" + far + ")", x.key(far), false);
        }
        dueTyped(x, "");
        due("key(0)", x.key(0), true);
        due("key(25)", x.key(25), true);
        dueTyped(x, "az");
        for (int i = 2; i < 10; i++) {
            due("key(" + i + ")", x.key(i), true);
        }
        due("key(5) on ten letters", x.key(5), false);
        due("key(26) on ten letters", x.key(26), false);
        dueTyped(x, "azcdefghij");
        x.back();
        due("key(20) on nine letters", x.key(20), true);
        dueTyped(x, "azcdefghiu");
        for (int letter = 0; letter < 26; letter++) {
            x.wipe();
            due("key(" + letter + ")", x.key(letter), true);
            due("typed(0)", x.typed(0), letter);
        }
    }

    private static void back() {
        SpellDesk x = new SpellDesk();
        due("back() on nothing", x.back(), false);
        type(x, "abc");
        due("back()", x.back(), true);
        dueTyped(x, "ab");
        due("key(25)", x.key(25), true);
        dueTyped(x, "abz");
        for (int left = 2; left >= 0; left--) {
            due("back()", x.back(), true);
            due("length()", x.length(), left);
        }
        due("back() on nothing", x.back(), false);
        dueTyped(x, "");
        type(x, "abcdefghij");
        due("back() on ten letters", x.back(), true);
        dueTyped(x, "abcdefghi");
    }

    private static void wipe() {
        SpellDesk x = desk("cat", 3, "dog", 4);
        type(x, "abcdefghij");
        x.wipe();
        dueTyped(x, "");
        dueWords(x, "cat", "dog");
        x.wipe();
        dueTyped(x, "");
        due("key(7)", x.key(7), true);
        dueTyped(x, "h");
    }

    private static void length() {
        SpellDesk x = new SpellDesk();
        for (int i = 0; i < 10; i++) {
            due("length()", x.length(), i);
            x.key(i);
        }
        due("length()", x.length(), 10);
        x.key(3);
        due("length() after a refused key", x.length(), 10);
        x.back();
        due("length()", x.length(), 9);
    }

    private static void typed() {
        SpellDesk x = new SpellDesk();
        type(x, "spell");
        due("typed(0)", x.typed(0), 's' - 'a');
        due("typed(4)", x.typed(4), 'l' - 'a');
        due("typed(5)", x.typed(5), -1);
        due("typed(9)", x.typed(9), -1);
        due("typed(10)", x.typed(10), -1);
        due("typed(-1)", x.typed(-1), -1);
        for (int far : FAR_INTS) {
            due("typed(" + far + ")", x.typed(far), -1);
        }
        x.back();
        due("typed(4) after back", x.typed(4), -1);
        type(x, "abcdefghij");
        due("typed(9)", x.typed(9), 9);
        due("typed(10)", x.typed(10), -1);
    }

    private static void learnNewAndKnown() {
        SpellDesk x = new SpellDesk();
        due("learn cat", learn(x, "cat", 3), 0);
        dueTyped(x, "cat");
        due("learn(4) again", x.learn(4), 1);
        dueTyped(x, "cat");
        due("count(0)", x.count(0), 7);
        due("words()", x.words(), 1);
        due("learn ca", learn(x, "ca", 1), 0);
        due("learn catch", learn(x, "catch", 2), 0);
        dueWords(x, "ca", "cat", "catch");
        dueCounts(x, 1, 7, 2);
        due("learn a", learn(x, "a", 9), 0);
        due("learn abcdefgh", learn(x, "abcdefgh", 8), 0);
        dueWords(x, "a", "abcdefgh", "ca", "cat", "catch");
        dueCounts(x, 9, 8, 1, 7, 2);
        x.key(25);
        x.wipe();
        dueWords(x, "a", "abcdefgh", "ca", "cat", "catch");
    }

    private static void learnToTheGreatestCount() {
        SpellDesk x = new SpellDesk();
        due("learn a", learn(x, "a", 1000000), 0);
        due("count(0)", x.count(0), 1000000);
        due("learn(1) at the greatest", x.learn(1), 1);
        due("count(0)", x.count(0), 1000000);
        due("learn(1000000) at the greatest", x.learn(1000000), 1);
        due("count(0)", x.count(0), 1000000);
        due("learn b", learn(x, "b", 999998), 0);
        due("learn(1)", x.learn(1), 1);
        due("count(1)", x.count(1), 999999);
        due("learn(1)", x.learn(1), 1);
        due("count(1)", x.count(1), 1000000);
        due("learn c", learn(x, "c", 999999), 0);
        due("learn(2)", x.learn(2), 1);
        due("count(2)", x.count(2), 1000000);
    }

    private static void learnRefused() {
        SpellDesk x = new SpellDesk();
        due("learn(0) of nothing", x.learn(0), -1);
        due("learn(1000001) of nothing", x.learn(1000001), -1);
        due("learn(1) of nothing", x.learn(1), -2);
        due("learn(1000000) of nothing", x.learn(1000000), -2);
        type(x, "ab");
        for (int n : new int[] {0, -1, 1000001}) {
            due("learn(" + n + ")", x.learn(n), -1);
        }
        for (int far : FAR_INTS) {
            due("learn(" + far + ")", x.learn(far), -1);
        }
        dueWords(x);
        dueTyped(x, "ab");
        due("learn nine letters", learn(x, "abcdefghi", 1), -2);
        due("learn ten letters", learn(x, "abcdefghij", 1), -2);
        due("learn(0) of ten letters", x.learn(0), -1);
        dueTyped(x, "abcdefghij");
        dueWords(x);
        due("learn ab", learn(x, "ab", 6), 0);
        due("learn(0) of a word", x.learn(0), -1);
        due("learn(1000001) of a word", x.learn(1000001), -1);
        due("count(0)", x.count(0), 6);
    }

    private static void learnWhenFull() {
        SpellDesk x = new SpellDesk();
        for (int letter = 23; letter >= 0; letter--) {
            x.wipe();
            x.key(letter);
            due("learn letter " + letter, x.learn(letter + 1), 0);
        }
        due("words()", x.words(), 24);
        due("learn z when full", learn(x, "z", 1), -3);
        due("learn ab when full", learn(x, "ab", 1), -3);
        due("learn(0) when full", x.learn(0), -1);
        due("learn(1000001) when full", x.learn(1000001), -1);
        due("learn nine letters when full", learn(x, "abcdefghi", 1), -2);
        due("learn nothing when full", learn(x, "", 1), -2);
        due("words()", x.words(), 24);
        due("learn a word when full", learn(x, "x", 5), 1);
        for (int k = 0; k < 23; k++) {
            due("letter(" + k + ", 0)", x.letter(k, 0), k);
            due("count(" + k + ")", x.count(k), k + 1);
        }
        due("count(23)", x.count(23), 29);
        due("near(1)", x.near(1), 24);
        due("suggest(23, 1)", x.suggest(23, 1), 0);
        due("suggest(24, 1)", x.suggest(24, 1), -1);
        due("forget(23)", x.forget(23), true);
        due("learn aaaaaaaa", learn(x, "aaaaaaaa", 2), 0);
        due("letter(1, 7)", x.letter(1, 7), 0);
        due("letter(23, 0)", x.letter(23, 0), 22);
        due("learn z when full", learn(x, "z", 1), -3);
    }

    private static void forget() {
        SpellDesk x = desk("ant", 1, "bee", 2, "cow", 3, "dog", 4);
        type(x, "cow");
        due("forget(-1)", x.forget(-1), false);
        due("forget(4)", x.forget(4), false);
        due("forget(24)", x.forget(24), false);
        for (int far : FAR_INTS) {
            due("forget(" + far + ")", x.forget(far), false);
        }
        dueWords(x, "ant", "bee", "cow", "dog");
        due("forget(1)", x.forget(1), true);
        dueWords(x, "ant", "cow", "dog");
        dueCounts(x, 1, 3, 4);
        dueTyped(x, "cow");
        due("forget(2)", x.forget(2), true);
        dueWords(x, "ant", "cow");
        due("forget(2)", x.forget(2), false);
        due("forget(0)", x.forget(0), true);
        dueWords(x, "cow");
        due("rank()", x.rank(), 0);
        due("forget(0)", x.forget(0), true);
        due("forget(0)", x.forget(0), false);
        dueWords(x);
        due("rank()", x.rank(), -1);
    }

    private static void forgetAndLearnAgain() {
        SpellDesk x = desk("banana", 50, "apple", 40);
        due("forget(1)", x.forget(1), true);
        due("learn fig", learn(x, "fig", 2), 0);
        dueWords(x, "apple", "fig");
        dueCounts(x, 40, 2);
        due("letter(1, 3)", x.letter(1, 3), -1);
        due("learn banana", learn(x, "banana", 1), 0);
        dueWords(x, "apple", "banana", "fig");
        dueCounts(x, 40, 1, 2);
    }

    private static void words() {
        SpellDesk x = new SpellDesk();
        due("words()", x.words(), 0);
        learn(x, "a", 1);
        due("words()", x.words(), 1);
        learn(x, "a", 1);
        due("words() after a known word", x.words(), 1);
        learn(x, "b", 1);
        due("words()", x.words(), 2);
        learn(x, "abcdefghi", 1);
        due("words() after a refused word", x.words(), 2);
        x.forget(2);
        due("words() after a refused forget", x.words(), 2);
        x.forget(0);
        due("words()", x.words(), 1);
    }

    private static void letter() {
        SpellDesk x = desk("abcdefgh", 1, "zy", 2);
        type(x, "qqqqqqqqqq");
        for (int i = 0; i < 8; i++) {
            due("letter(0, " + i + ")", x.letter(0, i), i);
        }
        due("letter(0, 8)", x.letter(0, 8), -1);
        due("letter(0, -1)", x.letter(0, -1), -1);
        due("letter(1, 0)", x.letter(1, 0), 25);
        due("letter(1, 1)", x.letter(1, 1), 24);
        due("letter(1, 2)", x.letter(1, 2), -1);
        due("letter(1, -1)", x.letter(1, -1), -1);
        due("letter(2, 0)", x.letter(2, 0), -1);
        due("letter(24, 0)", x.letter(24, 0), -1);
        due("letter(-1, 0)", x.letter(-1, 0), -1);
        for (int far : FAR_INTS) {
            due("letter(0, " + far + ")", x.letter(0, far), -1);
            due("letter(" + far + ", 0)", x.letter(far, 0), -1);
            due("letter(" + far + ", " + far + ")", x.letter(far, far), -1);
        }
    }

    private static void orderOfWords() {
        SpellDesk x = desk("ba", 1, "b", 2, "ab", 3, "aab", 4, "a", 5, "aa", 6, "aaz", 7, "zaaaaaaa", 8, "z", 9, "az", 10);
        dueWords(x, "a", "aa", "aab", "aaz", "ab", "az", "b", "ba", "z", "zaaaaaaa");
        dueCounts(x, 5, 6, 4, 7, 3, 10, 2, 1, 9, 8);
    }

    private static void count() {
        SpellDesk x = desk("dog", 4, "cat", 1000000, "cats", 1);
        due("count(0)", x.count(0), 1000000);
        due("count(1)", x.count(1), 1);
        due("count(2)", x.count(2), 4);
        due("count(3)", x.count(3), 0);
        due("count(24)", x.count(24), 0);
        due("count(-1)", x.count(-1), 0);
        for (int far : FAR_INTS) {
            due("count(" + far + ")", x.count(far), 0);
        }
        x.forget(0);
        due("count(0) after forget", x.count(0), 1);
        due("count(2) after forget", x.count(2), 0);
    }

    private static void rank() {
        SpellDesk x = desk("cat", 1, "cats", 2, "abcdefgh", 3);
        dueRank(x, "abcdefgh", 0);
        dueRank(x, "cat", 1);
        dueRank(x, "cats", 2);
        dueRank(x, "ca", -1);
        dueRank(x, "catsx", -1);
        dueRank(x, "car", -1);
        dueRank(x, "", -1);
        dueRank(x, "abcdefg", -1);
        dueRank(x, "abcdefghi", -1);
        dueRank(x, "abcdefghij", -1);
        learn(x, "b", 1);
        dueRank(x, "cat", 2);
        x.forget(0);
        dueRank(x, "cat", 1);
        dueRank(x, "abcdefgh", -1);
    }

    private static void distance() {
        dueDistance("", "abc", 3);
        dueDistance("abc", "abc", 0);
        dueDistance("abd", "abc", 1);
        dueDistance("ab", "abc", 1);
        dueDistance("bc", "abc", 1);
        dueDistance("abxc", "abc", 1);
        dueDistance("ba", "ab", 2);
        dueDistance("sitting", "kitten", 3);
        dueDistance("sunday", "saturday", 3);
        dueDistance("bcdefgha", "abcdefgh", 2);
        dueDistance("abcdefghij", "zzzzzzzz", 10);
        dueDistance("abcdefghij", "z", 10);
        dueDistance("abcdefghij", "j", 9);
        dueDistance("abcdefghij", "cdefghij", 2);
        dueDistance("a", "bbbbbbbb", 8);
        dueDistance("", "bbbbbbbb", 8);
        SpellDesk x = desk("cat", 1, "dog", 2);
        type(x, "cog");
        due("distance(0)", x.distance(0), 2);
        due("distance(1)", x.distance(1), 1);
        due("distance(2)", x.distance(2), -1);
        due("distance(24)", x.distance(24), -1);
        due("distance(-1)", x.distance(-1), -1);
        for (int far : FAR_INTS) {
            due("distance(" + far + ")", x.distance(far), -1);
        }
    }

    private static void near() {
        SpellDesk x = desk("cat", 5, "cart", 2, "car", 9, "dog", 5);
        type(x, "cut");
        int[] found = {0, 1, 3, 4, 4};
        for (int d = 0; d < found.length; d++) {
            due("near(" + d + ")", x.near(d), found[d]);
        }
        due("near(-1)", x.near(-1), 0);
        due("near(least int)", x.near(Integer.MIN_VALUE), 0);
        due("near(greatest int)", x.near(Integer.MAX_VALUE), 4);
        type(x, "car");
        due("near(0)", x.near(0), 1);
        due("near(-1)", x.near(-1), 0);
        x.forget(0);
        due("near(0) after forget", x.near(0), 0);
        due("near(1) after forget", x.near(1), 2);
        type(x, "");
        due("near(2) of nothing", x.near(2), 0);
        due("near(3) of nothing", x.near(3), 2);
        due("near(4) of nothing", x.near(4), 3);
    }

    private static void suggest() {
        SpellDesk x = desk("cat", 5, "cart", 2, "car", 9, "dog", 5);
        type(x, "cut");
        dueSuggestions(x, 0);
        dueSuggestions(x, 1, 2);
        dueSuggestions(x, 2, 2, 0, 1);
        dueSuggestions(x, 3, 2, 0, 1, 3);
        dueSuggestions(x, Integer.MAX_VALUE, 2, 0, 1, 3);
        dueSuggestions(x, -1);
        dueSuggestions(x, Integer.MIN_VALUE);
        for (int far : FAR_INTS) {
            due("suggest(" + far + ", 3)", x.suggest(far, 3), -1);
        }
        type(x, "dog");
        dueSuggestions(x, 0, 3);
        dueSuggestions(x, -1);
        type(x, "");
        dueSuggestions(x, 3, 0, 2, 3);
        dueSuggestions(x, 4, 0, 2, 3, 1);
        x.forget(0);
        dueSuggestions(x, 4, 1, 2, 0);
    }

    private static void suggestWithEqualDistances() {
        SpellDesk x = desk("bd", 3, "ba", 3, "bc", 4, "bb", 3, "be", 2, "b", 1);
        type(x, "bz");
        dueSuggestions(x, 1, 3, 1, 2, 4, 5, 0);
        type(x, "bb");
        dueSuggestions(x, 0, 2);
        dueSuggestions(x, 1, 2, 3, 1, 4, 5, 0);
        learn(x, "be", 1000000);
        type(x, "bz");
        dueSuggestions(x, 1, 5, 3, 1, 2, 4, 0);
    }

    private static void complete() {
        SpellDesk x = desk("a", 1, "ab", 3, "abc", 3, "b", 7, "abcdefgh", 9, "ac", 3);
        type(x, "");
        dueCompletions(x, 3, 5, 1, 2, 4, 0);
        type(x, "a");
        dueCompletions(x, 3, 1, 2, 4, 0);
        type(x, "ab");
        dueCompletions(x, 3, 1, 2);
        type(x, "abcdefgh");
        dueCompletions(x, 3);
        type(x, "abcdefghi");
        dueCompletions(x);
        type(x, "abcdefghij");
        dueCompletions(x);
        type(x, "c");
        dueCompletions(x);
        type(x, "bc");
        dueCompletions(x);
        type(x, "b");
        dueCompletions(x, 5);
        for (int far : FAR_INTS) {
            due("complete(" + far + ")", x.complete(far), -1);
        }
        type(x, "a");
        x.forget(3);
        dueCompletions(x, 1, 2, 3, 0);
        learn(x, "a", 5);
        dueCompletions(x, 0, 1, 2, 3);
    }

    private static void edit() {
        dueRow("", "abc", "AAA");
        dueRow("abc", "abc", "KKK");
        dueRow("abx", "abc", "KKC");
        dueRow("ab", "abc", "KKA");
        dueRow("bc", "abc", "AKK");
        dueRow("abxc", "abc", "KKDK");
        dueRow("sitting", "kitten", "CKKKCKD");
        dueRow("abcdefghij", "j", "DDDDDDDDDK");
        SpellDesk x = desk("cat", 1, "dog", 2);
        type(x, "cog");
        due("edit(1, 0)", x.edit(1, 0), 1);
        due("edit(1, 1)", x.edit(1, 1), 0);
        due("edit(1, 3)", x.edit(1, 3), -1);
        due("edit(1, -1)", x.edit(1, -1), -1);
        due("edit(2, 0)", x.edit(2, 0), -1);
        due("edit(24, 0)", x.edit(24, 0), -1);
        due("edit(-1, 0)", x.edit(-1, 0), -1);
        for (int far : FAR_INTS) {
            due("edit(0, " + far + ")", x.edit(0, far), -1);
            due("edit(" + far + ", 0)", x.edit(far, 0), -1);
        }
        x.forget(0);
        due("edit(0, 0) after forget", x.edit(0, 0), 1);
        due("edit(1, 0) after forget", x.edit(1, 0), -1);
    }

    private static void editPrefersEarlierKinds() {
        dueRow("ab", "ba", "CC");
        dueRow("a", "ba", "AK");
        dueRow("a", "aa", "KA");
        dueRow("aa", "a", "KD");
        dueRow("ba", "a", "DK");
        dueRow("bb", "a", "CD");
        dueRow("a", "bb", "CA");
        dueRow("abc", "bcd", "DKKA");
        dueRow("bcd", "abc", "AKKD");
        dueRow("nooon", "noo", "KKKDD");
        dueRow("nooon", "noon", "KKKDK");
        dueRow("abcb", "bab", "DKCK");
        dueRow("abab", "baba", "DKKKA");
    }

    private static void editOfTheLongestRows() {
        dueRow("abcdefghij", "zzzzzzzz", "CCCCCCCCDD");
        dueRow("xyabcdefgh", "abcdefgh", "DDKKKKKKKK");
        dueRow("xyzabcdefg", "abcdefgh", "DDDKKKKKKKA");
        dueRow("uvwxyzabcd", "abcdefgh", "CCCCCCCCDD");
        dueRow("vwxyzabcde", "abcdefgh", "DDDDDKKKKKAAA");
    }

    private static void drops() {
        dueDrops("", 1);
        dueDrops("a", 1, 1);
        dueDrops("aa", 1, 1, 1);
        dueDrops("ab", 1, 2, 1);
        dueDrops("aba", 1, 3, 2, 1);
        dueDrops("abab", 1, 4, 4, 2, 1);
        dueDrops("sitting", 1, 6, 16, 24, 22, 13, 5, 1);
        dueDrops("nooon", 1, 3, 4, 4, 2, 1);
        dueDrops("aaaaaaaaaa", 1, 1, 1, 1, 1, 1, 1, 1, 1, 1, 1);
        dueDrops("abcdefghij", 1, 10, 45, 120, 210, 252, 210, 120, 45, 10, 1);
        SpellDesk x = desk("cat", 1);
        type(x, "abc");
        for (int far : FAR_INTS) {
            due("drops(" + far + ")", x.drops(far), 0);
        }
        x.drops(1);
        dueTyped(x, "abc");
        x.back();
        due("drops(2) after back", x.drops(2), 1);
        due("drops(3) after back", x.drops(3), 0);
    }

    private static void askingChangesNothing() {
        SpellDesk x = desk("cat", 5, "cart", 2, "car", 9);
        type(x, "cut");
        for (int a = -2; a < 5; a++) {
            x.near(a);
            x.drops(a);
            x.complete(a);
            x.distance(a);
            x.count(a);
            x.typed(a);
            for (int b = -2; b < 5; b++) {
                x.suggest(a, b);
                x.edit(a, b);
                x.letter(a, b);
            }
        }
        dueTyped(x, "cut");
        dueWords(x, "car", "cart", "cat");
        dueCounts(x, 9, 2, 5);
        dueSuggestions(x, 2, 2, 0, 1);
    }
}
