/**
 * For each sentence of the document that names a boundary case, a test of its own, told by that
 * sentence. That refused calls change nothing is the matter of RefusedTest.
 */
public final class BoundaryTest extends DeskTest {
    private static final String TEN = "abcdefghij";

    public static void main(String[] args) {
        whatItIsAndTerms();
        promisesAboutTyped();
        promisesAboutWords();
        promisesAboutDistance();
        promisesAboutEdits();
        finish();
    }

    private static void whatItIsAndTerms() {
        check("What it is: an object is used for at most 512 calls", BoundaryTest::countUpToTheLastCall);
        check("What it is: an object is used for at most 512 calls", BoundaryTest::wordsComeAndGoUpToTheLastCall);
        check("Terms: letters are the ints 0 .. 25", BoundaryTest::leastAndGreatestLetter);
        check("Terms: a word has 1 .. 8 letters", BoundaryTest::shortestAndLongestWord);
        check("Terms: a count is 1 .. 1000000", BoundaryTest::leastAndGreatestCount);
        check("Terms: there are at most 24 words", BoundaryTest::mostWords);
        check("Terms: no two words with the same letters", BoundaryTest::noTwoWordsWithTheSameLetters);
        check("Terms: typed is a list of 0 .. 10 letters", BoundaryTest::shortestAndLongestTyped);
        check("Terms: the lesser letter at the first place where they differ", BoundaryTest::firstDifferenceDecides);
        check("Terms: is one the beginning of the other, the shorter one", BoundaryTest::shorterOfTwoComesFirst);
        check("Terms: the first has rank 0; ranks change", BoundaryTest::ranksChange);
        check("Terms: KEEP costs 0, the others 1", BoundaryTest::costsOfEdits);
        check("Terms: CHANGE puts a letter that is not the next letter", BoundaryTest::noChangeToTheSameLetter);
        check("Terms: a row goes through all letters of typed", BoundaryTest::rowGoesThroughAllOfTyped);
        check("Terms: KEEP is earlier than DROP", BoundaryTest::keepBeforeDrop);
        check("Terms: KEEP is earlier than ADD", BoundaryTest::keepBeforeAdd);
        check("Terms: CHANGE is earlier than DROP", BoundaryTest::changeBeforeDrop);
        check("Terms: CHANGE is earlier than ADD", BoundaryTest::changeBeforeAdd);
        check("Terms: DROP is earlier than ADD", BoundaryTest::dropBeforeAdd);
        check("Terms: the row is one of the least cost", BoundaryTest::costBeforeKinds);
    }

    private static void promisesAboutTyped() {
        check("Promise 1: no words", BoundaryTest::newHasNoWords);
        check("Promise 1: nothing typed", BoundaryTest::newHasNothingTyped);
        check("Promise 2: put behind typed", BoundaryTest::keyPutsBehind);
        check("Promise 2: false if it is no letter", BoundaryTest::keyOfNoLetter);
        check("Promise 2: false if typed has 10", BoundaryTest::keyOnTen);
        check("Promise 3: the last letter is taken away", BoundaryTest::backFromTenToNothing);
        check("Promise 3: false if there is none", BoundaryTest::backOnNothing);
        check("Promise 4: typed becomes empty", BoundaryTest::wipeOfNothingOneAndTen);
        check("Promise 5: how many letters typed has", BoundaryTest::lengthFromNothingToTen);
        check("Promise 6: counted from 0", BoundaryTest::typedFirstAndLast);
        check("Promise 6: -1 if there is none", BoundaryTest::typedWhereNoneIs);
        check("Promise 6: -1 if there is none any more", BoundaryTest::typedWhereOneWas);
    }

    private static void promisesAboutWords() {
        check("Promise 7: 0 if it is a new word, whose count is n", BoundaryTest::learnNewWord);
        check("Promise 7: 1 if it is a word already, whose count grows by n", BoundaryTest::learnKnownWord);
        check("Promise 7: but to 1000000 at most", BoundaryTest::countGrowsToTheGreatest);
        check("Promise 7: -1 n is not 1 .. 1000000", BoundaryTest::learnWrongTimes);
        check("Promise 7: -2 typed has no letter", BoundaryTest::learnNothing);
        check("Promise 7: -2 typed has more than 8", BoundaryTest::learnTooLong);
        check("Promise 7: -3 it is no word yet, and there are 24", BoundaryTest::learnWhenFull);
        check("Promise 7: -3 only if it is no word yet", BoundaryTest::learnKnownWordWhenFull);
        check("Promise 7: refused, the first that holds: -1 before -2", BoundaryTest::wrongTimesBeforeWrongLength);
        check("Promise 7: refused, the first that holds: -1 before -3", BoundaryTest::wrongTimesBeforeFull);
        check("Promise 7: refused, the first that holds: -2 before -3", BoundaryTest::wrongLengthBeforeFull);
        check("Promise 7: typed stays", BoundaryTest::typedStays);
        check("Promise 8: the word of rank k is no word any more", BoundaryTest::forgetFirstMiddleAndLast);
        check("Promise 8: the word of rank k is no word any more", BoundaryTest::forgetOfAFullDictionary);
        check("Promise 8: the word of rank k is no word any more", BoundaryTest::forgottenCountIsGone);
        check("Promise 8: the word of rank k is no word any more", BoundaryTest::wordsThatStayAreUntouched);
        check("Promise 8: false if there is none", BoundaryTest::forgetNone);
        check("Promise 9: how many words there are", BoundaryTest::wordsFromNoneToTheMost);
        check("Promise 10: letter i (from 0)", BoundaryTest::firstAndLastLetter);
        check("Promise 10: -1 if there is no such word", BoundaryTest::letterOfNoWord);
        check("Promise 10: -1 if there is no such letter", BoundaryTest::noSuchLetter);
        check("Promise 10: -1 if there is no such letter any more", BoundaryTest::noLettersOfForgottenWords);
        check("Promise 11: the count of the word of rank k", BoundaryTest::countOfFirstAndLast);
        check("Promise 11: 0 if there is none", BoundaryTest::countOfNoWord);
        check("Promise 12: the rank of the word that is typed", BoundaryTest::rankOfFirstAndLast);
        check("Promise 12: -1 if it is no word", BoundaryTest::rankOfNoWord);
    }

    private static void promisesAboutDistance() {
        check("Promise 13: the distance of typed and the word", BoundaryTest::leastAndGreatestDistance);
        check("Promise 13: the distance if nothing is typed", BoundaryTest::distanceOfNothing);
        check("Promise 13: -1 if there is none", BoundaryTest::distanceOfNoWord);
        check("Promise 14: a distance of d or less", BoundaryTest::nearCountsTheLimitItself);
        check("Promise 14: for every int d", BoundaryTest::nearForEveryInt);
        check("Promise 14: how many words", BoundaryTest::nearWithNoWordsAndTheMost);
        check("Promise 15: a distance of d or less", BoundaryTest::suggestCountsTheLimitItself);
        check("Promise 15: a distance of d or less, for every int d", BoundaryTest::suggestForEveryLimit);
        check("Promise 15: those of less distance first", BoundaryTest::suggestLessDistanceFirst);
        check("Promise 15: of the same distance those with the greater count", BoundaryTest::suggestGreaterCountFirst);
        check("Promise 15: of the same count too in the order of words", BoundaryTest::suggestInTheOrderOfWords);
        check("Promise 15: -1 if there are not so many", BoundaryTest::suggestNotSoMany);
        check("Promise 15: -1 if i is below 0", BoundaryTest::suggestBelowZero);
        check("Promise 16: the words that begin with typed", BoundaryTest::completeOnlyWhatBeginsWithTyped);
        check("Promise 16: a word that is typed does", BoundaryTest::completeTheTypedWord);
        check("Promise 16: all do if nothing is typed", BoundaryTest::completeNothing);
        check("Promise 16: those with the greater count first", BoundaryTest::completeGreaterCountFirst);
        check("Promise 16: of the same count in the order of words", BoundaryTest::completeInTheOrderOfWords);
        check("Promise 16: -1 if there are not so many", BoundaryTest::completeNotSoMany);
        check("Promise 16: -1 if i is below 0", BoundaryTest::completeBelowZero);
    }

    private static void promisesAboutEdits() {
        check("Promise 17: 0 KEEP, 1 CHANGE, 2 DROP, 3 ADD", BoundaryTest::numbersOfEdits);
        check("Promise 17: the row if nothing is typed", BoundaryTest::rowOfNothing);
        check("Promise 17: the j-th edit of the longest rows", BoundaryTest::longestRows);
        check("Promise 17: -1 if there is no such word", BoundaryTest::editOfNoWord);
        check("Promise 17: -1 if its row has not so many edits", BoundaryTest::rowHasNotSoMany);
        check("Promise 17: -1 if j is below 0", BoundaryTest::editBelowZero);
        check("Promise 18: how many different lists", BoundaryTest::dropsCountsDifferentLists);
        check("Promise 18: wherever they stand", BoundaryTest::dropsWhereverTheyStand);
        check("Promise 18: 1 for n = 0", BoundaryTest::dropsNothing);
        check("Promise 18: n = length() leaves the empty list", BoundaryTest::dropsAll);
        check("Promise 18: 0 if n is below 0", BoundaryTest::dropsBelowZero);
        check("Promise 18: 0 if n is above length()", BoundaryTest::dropsTooMany);
    }

    private static void check(String sentence, Runnable test) {
        about(sentence);
        test.run();
    }

    // What it is

    private static void countUpToTheLastCall() {
        SpellDesk x = new SpellDesk();
        due("call 1, key(0)", x.key(0), true);
        due("call 2, learn(1)", x.learn(1), 0);
        for (int call = 3; call < 512; call++) {
            due("call " + call + ", learn(1)", x.learn(1), 1);
        }
        due("call 512, count(0)", x.count(0), 510);
    }

    private static void wordsComeAndGoUpToTheLastCall() {
        SpellDesk x = new SpellDesk();
        for (int round = 0; round < 128; round++) {
            due("key in round " + round, x.key(round % 26), true);
            due("learn in round " + round, x.learn(round + 1), 0);
            due(round % 2 == 0 ? "forget(0)" : "back()", round % 2 == 0 ? x.forget(0) : x.back(), true);
            due(round % 2 == 0 ? "back()" : "forget(0)", round % 2 == 0 ? x.back() : x.forget(0), true);
        }
        SpellDesk y = full();
        for (int call = 73; call <= 512; call++) {
            due("call " + call + ", learn(1)", y.learn(1), 1);
        }
    }

    // Terms

    private static void leastAndGreatestLetter() {
        SpellDesk x = new SpellDesk();
        due("key(0)", x.key(0), true);
        due("key(25)", x.key(25), true);
        due("key(-1)", x.key(-1), false);
        due("key(26)", x.key(26), false);
        due("learn(1)", x.learn(1), 0);
        dueWords(x, "az");
    }

    private static void shortestAndLongestWord() {
        SpellDesk x = new SpellDesk();
        due("learn no letter", learn(x, "", 1), -2);
        due("learn 1 letter", learn(x, "a", 1), 0);
        due("learn 8 letters", learn(x, "bcdefghi", 1), 0);
        due("learn 9 letters", learn(x, "cdefghijk", 1), -2);
        dueWords(x, "a", "bcdefghi");
    }

    private static void leastAndGreatestCount() {
        SpellDesk x = new SpellDesk();
        due("learn a 0 times", learn(x, "a", 0), -1);
        due("learn a 1 time", learn(x, "a", 1), 0);
        due("learn b 1000000 times", learn(x, "b", 1000000), 0);
        due("learn c 1000001 times", learn(x, "c", 1000001), -1);
        dueCounts(x, 1, 1000000);
    }

    private static void mostWords() {
        SpellDesk x = new SpellDesk();
        for (int k = 0; k < 24; k++) {
            type(x, "aaaaaaa");
            x.key(k);
            due("learn word " + k + " of 8 letters", x.learn(k + 1), 0);
            due("words()", x.words(), k + 1);
        }
        due("learn word 24", learn(x, "z", 1), -3);
        due("words()", x.words(), 24);
        for (int k = 0; k < 24; k++) {
            due("letter(" + k + ", 7)", x.letter(k, 7), k);
            due("count(" + k + ")", x.count(k), k + 1);
        }
    }

    private static void noTwoWordsWithTheSameLetters() {
        SpellDesk x = desk("ab", 3, "ba", 4, "abb", 5);
        due("learn ab again", learn(x, "ab", 1), 1);
        due("learn ba again", learn(x, "ba", 1), 1);
        dueWords(x, "ab", "abb", "ba");
        dueCounts(x, 4, 5, 5);
    }

    private static void shortestAndLongestTyped() {
        SpellDesk x = new SpellDesk();
        dueTyped(x, "");
        type(x, TEN);
        dueTyped(x, TEN);
        due("key(10) behind ten", x.key(10), false);
        dueTyped(x, TEN);
    }

    private static void firstDifferenceDecides() {
        SpellDesk x = desk("ba", 1, "az", 2, "b", 3, "aazzzzzz", 4, "ab", 5, "aaaaaaab", 6, "aaaaaaaa", 7, "z", 8);
        dueWords(x, "aaaaaaaa", "aaaaaaab", "aazzzzzz", "ab", "az", "b", "ba", "z");
        dueCounts(x, 7, 6, 4, 5, 2, 3, 1, 8);
    }

    private static void shorterOfTwoComesFirst() {
        String[] words = {"a", "aa", "aaa", "aaaa", "aaaaa", "aaaaaa", "aaaaaaa", "aaaaaaaa"};
        SpellDesk up = new SpellDesk();
        SpellDesk down = new SpellDesk();
        for (int i = 0; i < words.length; i++) {
            due("learn " + words[i], learn(up, words[i], 1), 0);
            due("learn " + words[7 - i], learn(down, words[7 - i], 1), 0);
        }
        dueWords(up, words);
        dueWords(down, words);
        dueWords(desk("za", 1, "z", 2), "z", "za");
    }

    private static void ranksChange() {
        SpellDesk x = desk("m", 1);
        dueRank(x, "m", 0);
        learn(x, "z", 1);
        dueRank(x, "m", 0);
        learn(x, "a", 1);
        dueRank(x, "a", 0);
        dueRank(x, "m", 1);
        dueRank(x, "z", 2);
        x.forget(0);
        dueRank(x, "m", 0);
        dueRank(x, "z", 1);
    }

    private static void costsOfEdits() {
        dueDistance("a", "a", 0);
        dueDistance("b", "a", 1);
        dueDistance("ab", "a", 1);
        dueDistance("a", "ab", 1);
        dueDistance("ba", "a", 1);
        dueDistance("a", "ba", 1);
    }

    private static void noChangeToTheSameLetter() {
        dueRow("a", "a", "K");
        dueRow("ab", "ac", "KC");
        dueRow("ba", "ca", "CK");
        dueRow("abcdefgh", "abcdefgh", "KKKKKKKK");
    }

    private static void rowGoesThroughAllOfTyped() {
        dueRow("abb", "a", "KDD");
        dueRow(TEN, "a", "KDDDDDDDDD");
        dueRow(TEN, "abcdefgh", "KKKKKKKKDD");
        dueDistance("abb", "a", 2);
        dueDistance(TEN, "a", 9);
    }

    private static void keepBeforeDrop() {
        dueRow("aa", "a", "KD");
        dueRow("aab", "ab", "KDK");
        dueRow("aaaaaaaaaa", "aaaaaaaa", "KKKKKKKKDD");
    }

    private static void keepBeforeAdd() {
        dueRow("a", "aa", "KA");
        dueRow("ab", "aab", "KAK");
        dueRow("a", "aaaaaaaa", "KAAAAAAA");
    }

    private static void changeBeforeDrop() {
        dueRow("bb", "a", "CD");
        dueRow(TEN, "zzzzzzzz", "CCCCCCCCDD");
    }

    private static void changeBeforeAdd() {
        dueRow("a", "bb", "CA");
        dueRow("a", "zzzzzzzz", "CAAAAAAA");
        dueRow("ab", "ba", "CC");
    }

    private static void dropBeforeAdd() {
        dueRow("abab", "baba", "DKKKA");
        dueRow("acbdacbd", "cbdacbda", "DKKKKKKKA");
    }

    private static void costBeforeKinds() {
        dueRow("bc", "abc", "AKK");
        dueRow("abc", "bc", "DKK");
        dueRow("abc", "bcd", "DKKA");
        dueRow("bcd", "abc", "AKKD");
    }

    // Promise 1

    private static void newHasNoWords() {
        SpellDesk x = new SpellDesk();
        dueWords(x);
        dueCounts(x);
        due("near(greatest int)", x.near(Integer.MAX_VALUE), 0);
        dueSuggestions(x, Integer.MAX_VALUE);
        dueCompletions(x);
        due("distance(0)", x.distance(0), -1);
        due("edit(0, 0)", x.edit(0, 0), -1);
        due("rank()", x.rank(), -1);
        due("forget(0)", x.forget(0), false);
        x.key(0);
        due("rank() of letter 0", x.rank(), -1);
    }

    private static void newHasNothingTyped() {
        SpellDesk x = new SpellDesk();
        dueTyped(x, "");
        due("drops(0)", x.drops(0), 1);
        due("drops(1)", x.drops(1), 0);
        due("learn(1)", x.learn(1), -2);
        due("back()", x.back(), false);
    }

    // Promise 2

    private static void keyPutsBehind() {
        SpellDesk x = new SpellDesk();
        due("key(25) on nothing", x.key(25), true);
        dueTyped(x, "z");
        due("key(0) on one letter", x.key(0), true);
        dueTyped(x, "za");
        type(x, "abcdefghi");
        due("key(25) on nine letters", x.key(25), true);
        dueTyped(x, "abcdefghiz");
    }

    private static void keyOfNoLetter() {
        SpellDesk x = new SpellDesk();
        due("key(-1)", x.key(-1), false);
        due("key(26)", x.key(26), false);
        for (int far : FAR_INTS) {
            due("key(" + far + ")", x.key(far), false);
        }
        // Ints that would be letters if only some of their bits were looked at.
        for (int wrapped : new int[] {256, 32, 65536, 1 << 26, -256, -26}) {
            due("key(" + wrapped + ")", x.key(wrapped), false);
        }
        dueTyped(x, "");
    }

    private static void keyOnTen() {
        SpellDesk x = new SpellDesk();
        type(x, TEN);
        for (int letter = -1; letter <= 26; letter++) {
            due("key(" + letter + ") on ten letters", x.key(letter), false);
        }
        dueTyped(x, TEN);
    }

    // Promise 3

    private static void backFromTenToNothing() {
        SpellDesk x = new SpellDesk();
        type(x, TEN);
        for (int left = 9; left >= 0; left--) {
            due("back() to " + left, x.back(), true);
            dueTyped(x, TEN.substring(0, left));
        }
    }

    private static void backOnNothing() {
        SpellDesk x = new SpellDesk();
        due("back() on a new desk", x.back(), false);
        type(x, "a");
        due("back() on one letter", x.back(), true);
        due("back() on nothing", x.back(), false);
        due("back() on nothing again", x.back(), false);
        due("length()", x.length(), 0);
        type(x, TEN);
        x.wipe();
        due("back() after wipe", x.back(), false);
        due("key(3)", x.key(3), true);
        dueTyped(x, "d");
    }

    // Promise 4

    private static void wipeOfNothingOneAndTen() {
        SpellDesk x = desk("cat", 3);
        for (String letters : new String[] {"", "a", "cat", TEN}) {
            type(x, letters);
            x.wipe();
            dueTyped(x, "");
        }
        dueWords(x, "cat");
        dueCounts(x, 3);
        type(x, TEN);
        dueTyped(x, TEN);
    }

    // Promise 5

    private static void lengthFromNothingToTen() {
        SpellDesk x = new SpellDesk();
        for (int i = 0; i < 10; i++) {
            due("length()", x.length(), i);
            x.key(25);
        }
        due("length() of ten", x.length(), 10);
        x.key(25);
        due("length() after a refused key", x.length(), 10);
        x.wipe();
        due("length() after wipe", x.length(), 0);
        x.back();
        due("length() after a refused back", x.length(), 0);
    }

    // Promise 6

    private static void typedFirstAndLast() {
        SpellDesk x = new SpellDesk();
        type(x, "zbcdefghia");
        due("typed(0)", x.typed(0), 25);
        due("typed(1)", x.typed(1), 1);
        due("typed(9)", x.typed(9), 0);
    }

    private static void typedWhereNoneIs() {
        SpellDesk x = new SpellDesk();
        due("typed(0) of nothing", x.typed(0), -1);
        due("typed(-1) of nothing", x.typed(-1), -1);
        type(x, "abc");
        due("typed(3) of three", x.typed(3), -1);
        due("typed(-1) of three", x.typed(-1), -1);
        type(x, TEN);
        due("typed(10) of ten", x.typed(10), -1);
        due("typed(11) of ten", x.typed(11), -1);
        due("typed(-1) of ten", x.typed(-1), -1);
        for (int far : FAR_INTS) {
            due("typed(" + far + ")", x.typed(far), -1);
        }
    }

    private static void typedWhereOneWas() {
        SpellDesk x = new SpellDesk();
        type(x, TEN);
        x.back();
        due("typed(9) after back", x.typed(9), -1);
        x.wipe();
        for (int i = 0; i < 10; i++) {
            due("typed(" + i + ") after wipe", x.typed(i), -1);
        }
    }

    // Promise 7

    private static void learnNewWord() {
        SpellDesk x = new SpellDesk();
        due("learn a", learn(x, "a", 1), 0);
        due("learn zzzzzzzz", learn(x, "zzzzzzzz", 1000000), 0);
        due("learn m", learn(x, "m", 999999), 0);
        dueWords(x, "a", "m", "zzzzzzzz");
        dueCounts(x, 1, 999999, 1000000);
    }

    private static void learnKnownWord() {
        SpellDesk x = desk("a", 1, "abcdefgh", 5);
        due("learn a", learn(x, "a", 1), 1);
        due("learn abcdefgh", learn(x, "abcdefgh", 999), 1);
        dueWords(x, "a", "abcdefgh");
        dueCounts(x, 2, 1004);
    }

    private static void countGrowsToTheGreatest() {
        dueGrown(999999, 1, 1000000);
        dueGrown(999998, 1, 999999);
        dueGrown(999999, 2, 1000000);
        dueGrown(1, 999999, 1000000);
        dueGrown(1, 1000000, 1000000);
        dueGrown(1, 999998, 999999);
        dueGrown(1000000, 1, 1000000);
        dueGrown(1000000, 1000000, 1000000);
        dueGrown(500000, 500001, 1000000);
        SpellDesk x = desk("a", 1000000);
        for (int i = 0; i < 500; i++) {
            due("learn(1000000) again", x.learn(1000000), 1);
        }
        due("count(0)", x.count(0), 1000000);
    }

    private static void dueGrown(int first, int more, int count) {
        SpellDesk x = desk("a", first);
        due("learn(" + more + ") on " + first, x.learn(more), 1);
        due("count(0) of " + first + " and " + more, x.count(0), count);
    }

    private static void learnWrongTimes() {
        SpellDesk x = desk("a", 7);
        for (String letters : new String[] {"a", "b"}) {
            type(x, letters);
            due("learn(0)", x.learn(0), -1);
            due("learn(-1)", x.learn(-1), -1);
            due("learn(1000001)", x.learn(1000001), -1);
            for (int far : FAR_INTS) {
                due("learn(" + far + ")", x.learn(far), -1);
            }
        }
        dueWords(x, "a");
        dueCounts(x, 7);
    }

    private static void learnNothing() {
        SpellDesk x = new SpellDesk();
        due("learn(1) of nothing", x.learn(1), -2);
        due("learn(1000000) of nothing", x.learn(1000000), -2);
        type(x, "a");
        x.back();
        due("learn(1) after back", x.learn(1), -2);
        type(x, "abc");
        x.wipe();
        due("learn(1) after wipe", x.learn(1), -2);
        dueWords(x);
    }

    private static void learnTooLong() {
        SpellDesk x = desk("abcdefgh", 1);
        due("learn nine letters", learn(x, "abcdefghi", 1), -2);
        due("learn ten letters", learn(x, TEN, 1000000), -2);
        dueWords(x, "abcdefgh");
        dueCounts(x, 1);
        x.back();
        x.back();
        due("learn(1) of eight letters", x.learn(1), 1);
    }

    private static void learnWhenFull() {
        SpellDesk x = full();
        due("learn y", learn(x, "y", 1), -3);
        due("learn aa", learn(x, "aa", 1000000), -3);
        due("learn abcdefgh", learn(x, "abcdefgh", 5), -3);
        due("words()", x.words(), 24);
        due("forget(0)", x.forget(0), true);
        due("learn y of 23", learn(x, "y", 1), 0);
        due("learn a of 24", learn(x, "a", 1), -3);
    }

    private static void learnKnownWordWhenFull() {
        SpellDesk x = full();
        for (int letter = 0; letter < 24; letter++) {
            x.wipe();
            x.key(letter);
            due("learn letter " + letter, x.learn(100), 1);
            due("count(" + letter + ")", x.count(letter), letter + 101);
        }
        due("words()", x.words(), 24);
    }

    private static void wrongTimesBeforeWrongLength() {
        for (String letters : new String[] {"", "abcdefghi", TEN}) {
            SpellDesk x = new SpellDesk();
            due("learn " + letters + " 0 times", learn(x, letters, 0), -1);
            due("learn(1000001)", x.learn(1000001), -1);
            due("learn(1)", x.learn(1), -2);
        }
    }

    private static void wrongTimesBeforeFull() {
        SpellDesk x = full();
        due("learn z 0 times", learn(x, "z", 0), -1);
        due("learn(1000001)", x.learn(1000001), -1);
        due("learn(1)", x.learn(1), -3);
    }

    private static void wrongLengthBeforeFull() {
        SpellDesk x = full();
        for (String letters : new String[] {"", "zbcdefghi", TEN}) {
            due("learn " + letters, learn(x, letters, 1), -2);
            due("learn(0)", x.learn(0), -1);
        }
        due("learn eight letters", learn(x, "zbcdefgh", 1), -3);
    }

    private static void typedStays() {
        SpellDesk x = new SpellDesk();
        due("learn abcdefgh", learn(x, "abcdefgh", 1), 0);
        dueTyped(x, "abcdefgh");
        due("learn(1) again", x.learn(1), 1);
        dueTyped(x, "abcdefgh");
        due("key(8)", x.key(8), true);
        dueTyped(x, "abcdefghi");
        dueWords(x, "abcdefgh");
        x.wipe();
        dueWords(x, "abcdefgh");
    }

    // Promise 8

    private static void forgetFirstMiddleAndLast() {
        SpellDesk x = desk("a", 1, "bb", 2, "ccc", 3, "dddd", 4, "eeeee", 5);
        due("forget(2)", x.forget(2), true);
        dueWords(x, "a", "bb", "dddd", "eeeee");
        dueCounts(x, 1, 2, 4, 5);
        due("forget(3), the last", x.forget(3), true);
        dueWords(x, "a", "bb", "dddd");
        dueCounts(x, 1, 2, 4);
        due("forget(0), the first", x.forget(0), true);
        dueWords(x, "bb", "dddd");
        dueCounts(x, 2, 4);
        due("forget(0)", x.forget(0), true);
        due("forget(0), the only one", x.forget(0), true);
        dueWords(x);
        dueCounts(x);
        dueTyped(x, "eeeee");
        due("rank()", x.rank(), -1);
    }

    private static void forgetOfAFullDictionary() {
        SpellDesk x = full();
        due("forget(23)", x.forget(23), true);
        due("forget(23) again", x.forget(23), false);
        due("forget(0)", x.forget(0), true);
        due("words()", x.words(), 22);
        for (int k = 0; k < 22; k++) {
            due("letter(" + k + ", 0)", x.letter(k, 0), k + 1);
            due("count(" + k + ")", x.count(k), k + 2);
        }
        due("count(22)", x.count(22), 0);
    }

    private static void forgottenCountIsGone() {
        SpellDesk x = desk("abc", 1000000);
        due("forget(0)", x.forget(0), true);
        due("learn abc anew", learn(x, "abc", 1), 0);
        dueCounts(x, 1);
    }

    // What a forgotten word leaves behind is soon used by another one, and by that one alone.
    private static void wordsThatStayAreUntouched() {
        for (int k = 0; k < 4; k++) {
            String[] words = {"a", "bbbbbbbb", "cc", "d"};
            SpellDesk x = desk("a", 1, "bbbbbbbb", 2, "cc", 3, "d", 4);
            int[] counts = {1, 2, 3, 4};
            due("forget(" + k + ")", x.forget(k), true);
            due("learn " + words[k] + " anew", learn(x, words[k], 50 + k), 0);
            counts[k] = 50 + k;
            dueWords(x, words);
            dueCounts(x, counts);
        }
        SpellDesk x = full();
        due("forget(0)", x.forget(0), true);
        due("learn z", learn(x, "z", 77), 0);
        for (int k = 0; k < 23; k++) {
            due("letter(" + k + ", 0)", x.letter(k, 0), k + 1);
            due("count(" + k + ")", x.count(k), k + 2);
        }
        due("letter(23, 0)", x.letter(23, 0), 25);
        due("count(23)", x.count(23), 77);
    }

    private static void forgetNone() {
        SpellDesk x = new SpellDesk();
        due("forget(0) of none", x.forget(0), false);
        due("forget(-1) of none", x.forget(-1), false);
        x = desk("a", 1, "b", 2);
        due("forget(2) of two", x.forget(2), false);
        due("forget(-1) of two", x.forget(-1), false);
        for (int far : FAR_INTS) {
            due("forget(" + far + ")", x.forget(far), false);
        }
        dueWords(x, "a", "b");
        x = full();
        due("forget(24) of 24", x.forget(24), false);
        due("forget(-1) of 24", x.forget(-1), false);
        due("words()", x.words(), 24);
    }

    // Promise 9

    private static void wordsFromNoneToTheMost() {
        SpellDesk x = new SpellDesk();
        for (int letter = 0; letter < 24; letter++) {
            due("words()", x.words(), letter);
            x.wipe();
            x.key(letter);
            x.learn(1);
        }
        due("words() of the most", x.words(), 24);
        learn(x, "z", 1);
        due("words() after a refused learn", x.words(), 24);
        for (int left = 23; left >= 0; left--) {
            x.forget(left / 2);
            due("words()", x.words(), left);
        }
        x.forget(0);
        due("words() after a refused forget", x.words(), 0);
    }

    // Promise 10

    private static void firstAndLastLetter() {
        SpellDesk x = desk("zbcdefga", 1, "m", 2);
        due("letter(0, 0)", x.letter(0, 0), 12);
        due("letter(1, 0)", x.letter(1, 0), 25);
        due("letter(1, 1)", x.letter(1, 1), 1);
        due("letter(1, 7)", x.letter(1, 7), 0);
    }

    private static void letterOfNoWord() {
        SpellDesk x = new SpellDesk();
        due("letter(0, 0) of none", x.letter(0, 0), -1);
        x = desk("abcdefgh", 1, "b", 2);
        type(x, "c");
        due("letter(2, 0) of two", x.letter(2, 0), -1);
        due("letter(-1, 0) of two", x.letter(-1, 0), -1);
        for (int far : FAR_INTS) {
            due("letter(" + far + ", 0)", x.letter(far, 0), -1);
            due("letter(" + far + ", " + far + ")", x.letter(far, far), -1);
        }
        x = full();
        due("letter(24, 0) of 24", x.letter(24, 0), -1);
        due("letter(-1, 0) of 24", x.letter(-1, 0), -1);
    }

    private static void noSuchLetter() {
        SpellDesk x = desk("abcdefgh", 1, "b", 2);
        type(x, TEN);
        due("letter(0, 8) of eight", x.letter(0, 8), -1);
        due("letter(0, 9) of eight", x.letter(0, 9), -1);
        due("letter(0, -1)", x.letter(0, -1), -1);
        due("letter(1, 1) of one", x.letter(1, 1), -1);
        due("letter(1, -1)", x.letter(1, -1), -1);
        for (int far : FAR_INTS) {
            due("letter(0, " + far + ")", x.letter(0, far), -1);
        }
    }

    private static void noLettersOfForgottenWords() {
        SpellDesk x = desk("abcdefgh", 1);
        x.forget(0);
        for (int i = 0; i < 8; i++) {
            due("letter(0, " + i + ") of a forgotten word", x.letter(0, i), -1);
        }
        due("learn z", learn(x, "z", 1), 0);
        dueWords(x, "z");
        for (int i = 1; i < 8; i++) {
            due("letter(0, " + i + ") of z", x.letter(0, i), -1);
        }
    }

    // Promise 11

    private static void countOfFirstAndLast() {
        SpellDesk x = full();
        due("count(0)", x.count(0), 1);
        due("count(23)", x.count(23), 24);
        dueCounts(desk("z", 1000000, "a", 1), 1, 1000000);
    }

    private static void countOfNoWord() {
        SpellDesk x = new SpellDesk();
        due("count(0) of none", x.count(0), 0);
        x = desk("a", 1, "b", 2);
        due("count(2) of two", x.count(2), 0);
        due("count(-1) of two", x.count(-1), 0);
        for (int far : FAR_INTS) {
            due("count(" + far + ")", x.count(far), 0);
        }
        x.forget(1);
        due("count(1) of a forgotten word", x.count(1), 0);
        x = full();
        due("count(24) of 24", x.count(24), 0);
        due("count(-1) of 24", x.count(-1), 0);
    }

    // Promise 12

    private static void rankOfFirstAndLast() {
        SpellDesk x = full();
        dueRank(x, "a", 0);
        dueRank(x, "x", 23);
        dueRank(desk("abcdefgh", 1), "abcdefgh", 0);
    }

    private static void rankOfNoWord() {
        dueRank(new SpellDesk(), "", -1);
        dueRank(new SpellDesk(), "a", -1);
        SpellDesk x = desk("abcdefgh", 1, "b", 2);
        dueRank(x, "", -1);
        dueRank(x, "abcdefg", -1);
        dueRank(x, "abcdefghi", -1);
        dueRank(x, TEN, -1);
        dueRank(x, "abcdefgi", -1);
        dueRank(x, "ba", -1);
        dueRank(full(), "y", -1);
        x.forget(0);
        dueRank(x, "abcdefgh", -1);
    }

    // Promise 13

    private static void leastAndGreatestDistance() {
        dueDistance("abcdefgh", "abcdefgh", 0);
        dueDistance(TEN, "zzzzzzzz", 10);
        dueDistance(TEN, "z", 10);
        dueDistance("z", "abcdefgh", 8);
        dueDistance(TEN, "abcdefgh", 2);
        dueDistance(TEN, "cdefghij", 2);
    }

    private static void distanceOfNothing() {
        dueDistance("", "a", 1);
        dueDistance("", "aaaaaaaa", 8);
    }

    private static void distanceOfNoWord() {
        SpellDesk x = new SpellDesk();
        due("distance(0) of none", x.distance(0), -1);
        x = desk("a", 1, "b", 2);
        due("distance(2) of two", x.distance(2), -1);
        due("distance(-1) of two", x.distance(-1), -1);
        for (int far : FAR_INTS) {
            due("distance(" + far + ")", x.distance(far), -1);
        }
        x.forget(1);
        due("distance(1) of a forgotten word", x.distance(1), -1);
        x = full();
        due("distance(24) of 24", x.distance(24), -1);
        due("distance(-1) of 24", x.distance(-1), -1);
    }

    // Promise 14

    private static void nearCountsTheLimitItself() {
        SpellDesk x = desk("aaaa", 1, "aaab", 2, "aabb", 3);
        type(x, "aaaa");
        due("near(0)", x.near(0), 1);
        due("near(1)", x.near(1), 2);
        due("near(2)", x.near(2), 3);
        x = desk("zzzzzzzz", 1);
        type(x, TEN);
        due("near(9) of distance 10", x.near(9), 0);
        due("near(10) of distance 10", x.near(10), 1);
    }

    private static void nearForEveryInt() {
        SpellDesk x = desk("a", 1, "b", 2);
        type(x, "a");
        due("near(-1)", x.near(-1), 0);
        for (int far : FAR_INTS) {
            due("near(" + far + ")", x.near(far), far < 0 ? 0 : 2);
        }
        for (int d = 1; d < 40; d++) {
            due("near(" + d + ")", x.near(d), 2);
        }
    }

    private static void nearWithNoWordsAndTheMost() {
        SpellDesk x = new SpellDesk();
        due("near(0) of none", x.near(0), 0);
        due("near(greatest int) of none", x.near(Integer.MAX_VALUE), 0);
        x = full();
        due("near(1) of 24", x.near(1), 24);
        due("near(0) of 24", x.near(0), 1);
        x.wipe();
        due("near(0) of 24, nothing typed", x.near(0), 0);
        due("near(1) of 24, nothing typed", x.near(1), 24);
        x.forget(23);
        due("near(1) of 23", x.near(1), 23);
    }

    // Promise 15

    private static void suggestCountsTheLimitItself() {
        SpellDesk x = desk("aaaa", 1, "aaab", 2, "aabb", 3);
        type(x, "aaaa");
        dueSuggestions(x, 0, 0);
        dueSuggestions(x, 1, 0, 1);
        dueSuggestions(x, 2, 0, 1, 2);
        x = desk("zzzzzzzz", 1);
        type(x, TEN);
        dueSuggestions(x, 9);
        dueSuggestions(x, 10, 0);
    }

    private static void suggestForEveryLimit() {
        SpellDesk x = desk("a", 1, "b", 2);
        type(x, "a");
        dueSuggestions(x, -1);
        for (int far : FAR_INTS) {
            if (far < 0) {
                dueSuggestions(x, far);
            } else {
                dueSuggestions(x, far, 0, 1);
            }
        }
    }

    private static void suggestLessDistanceFirst() {
        SpellDesk x = desk("abcd", 1, "abce", 10, "abff", 100, "gggg", 1000000);
        type(x, "abcd");
        dueSuggestions(x, 10, 0, 1, 2, 3);
        type(x, "gggg");
        dueSuggestions(x, 10, 3, 2, 1, 0);
    }

    private static void suggestGreaterCountFirst() {
        SpellDesk x = desk("a", 1, "b", 2, "c", 1000000, "d", 999999);
        type(x, "z");
        dueSuggestions(x, 1, 2, 3, 1, 0);
        type(x, "");
        dueSuggestions(x, 1, 2, 3, 1, 0);
    }

    private static void suggestInTheOrderOfWords() {
        SpellDesk x = desk("d", 5, "b", 5, "c", 5, "a", 5);
        type(x, "z");
        dueSuggestions(x, 1, 0, 1, 2, 3);
        SpellDesk y = desk("ba", 1000000, "b", 999999);
        learn(y, "b", 1000000);
        type(y, "bz");
        dueSuggestions(y, 1, 0, 1);
    }

    private static void suggestNotSoMany() {
        SpellDesk x = new SpellDesk();
        due("suggest(0, 10) of none", x.suggest(0, 10), -1);
        x = full();
        due("suggest(0, 1)", x.suggest(0, 1), 23);
        due("suggest(23, 1)", x.suggest(23, 1), 0);
        due("suggest(24, 1)", x.suggest(24, 1), -1);
        due("suggest(0, 0)", x.suggest(0, 0), 23);
        due("suggest(1, 0)", x.suggest(1, 0), -1);
        due("suggest(1000, 1)", x.suggest(1000, 1), -1);
        due("suggest(greatest int, 1)", x.suggest(Integer.MAX_VALUE, 1), -1);
        x.forget(23);
        due("suggest(22, 1) of 23", x.suggest(22, 1), 0);
        due("suggest(23, 1) of 23", x.suggest(23, 1), -1);
    }

    private static void suggestBelowZero() {
        SpellDesk x = desk("a", 1, "b", 2);
        for (int d : new int[] {-1, 0, 1, Integer.MIN_VALUE, Integer.MAX_VALUE}) {
            due("suggest(-1, " + d + ")", x.suggest(-1, d), -1);
            due("suggest(least int, " + d + ")", x.suggest(Integer.MIN_VALUE, d), -1);
        }
    }

    // Promise 16

    private static void completeOnlyWhatBeginsWithTyped() {
        SpellDesk x = desk("abcdefgh", 1, "ab", 2, "b", 3, "bab", 4);
        type(x, "abcdefg");
        dueCompletions(x, 1);
        type(x, "abcdefgi");
        dueCompletions(x);
        type(x, "abcdefghi");
        dueCompletions(x);
        type(x, TEN);
        dueCompletions(x);
        type(x, "abc");
        dueCompletions(x, 1);
        type(x, "ba");
        dueCompletions(x, 3);
        type(x, "c");
        dueCompletions(x);
    }

    private static void completeTheTypedWord() {
        SpellDesk x = desk("a", 9, "ab", 2, "abcdefgh", 1);
        type(x, "a");
        dueCompletions(x, 0, 1, 2);
        type(x, "ab");
        dueCompletions(x, 1, 2);
        type(x, "abcdefgh");
        dueCompletions(x, 2);
    }

    private static void completeNothing() {
        SpellDesk x = full();
        x.wipe();
        for (int i = 0; i < 24; i++) {
            due("complete(" + i + ") of nothing", x.complete(i), 23 - i);
        }
        due("complete(24) of nothing", x.complete(24), -1);
        dueCompletions(new SpellDesk());
    }

    private static void completeGreaterCountFirst() {
        SpellDesk x = desk("aa", 1, "ab", 2, "ac", 1000000, "ad", 999999, "b", 3);
        type(x, "a");
        dueCompletions(x, 2, 3, 1, 0);
    }

    private static void completeInTheOrderOfWords() {
        SpellDesk x = desk("ad", 5, "ab", 5, "abb", 5, "a", 5, "b", 5);
        type(x, "a");
        dueCompletions(x, 0, 1, 2, 3);
        SpellDesk y = desk("ab", 1000000, "a", 999999);
        learn(y, "a", 1000000);
        dueCompletions(y, 0, 1);
    }

    private static void completeNotSoMany() {
        SpellDesk x = new SpellDesk();
        due("complete(0) of none", x.complete(0), -1);
        x = desk("a", 1, "ab", 2, "b", 3);
        type(x, "a");
        due("complete(1)", x.complete(1), 0);
        due("complete(2)", x.complete(2), -1);
        due("complete(3)", x.complete(3), -1);
        due("complete(greatest int)", x.complete(Integer.MAX_VALUE), -1);
        x.forget(0);
        due("complete(1) after forget", x.complete(1), -1);
    }

    private static void completeBelowZero() {
        SpellDesk x = desk("a", 1, "b", 2);
        for (String letters : new String[] {"", "a", "c"}) {
            type(x, letters);
            due("complete(-1) of " + letters, x.complete(-1), -1);
            due("complete(least int) of " + letters, x.complete(Integer.MIN_VALUE), -1);
        }
    }

    // Promise 17

    private static void numbersOfEdits() {
        SpellDesk x = desk("ab", 1);
        type(x, "ab");
        due("KEEP", x.edit(0, 1), 0);
        type(x, "az");
        due("CHANGE", x.edit(0, 1), 1);
        type(x, "abz");
        due("DROP", x.edit(0, 2), 2);
        type(x, "a");
        due("ADD", x.edit(0, 1), 3);
    }

    private static void rowOfNothing() {
        dueRow("", "a", "A");
        dueRow("", "abcdefgh", "AAAAAAAA");
    }

    private static void longestRows() {
        dueRow("vwxyzabcde", "abcdefgh", "DDDDDKKKKKAAA");
        dueRow("xyzabcdefg", "abcdefgh", "DDDKKKKKKKA");
        dueRow(TEN, "cdefghij", "DDKKKKKKKK");
        dueRow(TEN, "j", "DDDDDDDDDK");
        dueRow(TEN, "z", "CDDDDDDDDD");
    }

    private static void editOfNoWord() {
        SpellDesk x = new SpellDesk();
        due("edit(0, 0) of none", x.edit(0, 0), -1);
        x = desk("a", 1, "b", 2);
        due("edit(2, 0) of two", x.edit(2, 0), -1);
        due("edit(-1, 0) of two", x.edit(-1, 0), -1);
        for (int far : FAR_INTS) {
            due("edit(" + far + ", 0)", x.edit(far, 0), -1);
            due("edit(" + far + ", " + far + ")", x.edit(far, far), -1);
        }
        x.forget(1);
        due("edit(1, 0) of a forgotten word", x.edit(1, 0), -1);
        x = full();
        due("edit(24, 0) of 24", x.edit(24, 0), -1);
        due("edit(-1, 0) of 24", x.edit(-1, 0), -1);
    }

    private static void rowHasNotSoMany() {
        SpellDesk x = desk("abcdefgh", 1);
        type(x, "vwxyzabcde");
        due("edit(0, 12)", x.edit(0, 12), 3);
        for (int j = 13; j < 40; j++) {
            due("edit(0, " + j + ")", x.edit(0, j), -1);
        }
        due("edit(0, greatest int)", x.edit(0, Integer.MAX_VALUE), -1);
        type(x, "");
        due("edit(0, 7) of nothing", x.edit(0, 7), 3);
        due("edit(0, 8) of nothing", x.edit(0, 8), -1);
        type(x, "abcdefgh");
        due("edit(0, 7) of the word", x.edit(0, 7), 0);
        due("edit(0, 8) of the word", x.edit(0, 8), -1);
    }

    private static void editBelowZero() {
        SpellDesk x = desk("a", 1);
        for (String letters : new String[] {"", "a", "b", TEN}) {
            type(x, letters);
            due("edit(0, -1) of " + letters, x.edit(0, -1), -1);
            due("edit(0, least int) of " + letters, x.edit(0, Integer.MIN_VALUE), -1);
        }
    }

    // Promise 18

    private static void dropsCountsDifferentLists() {
        dueDrops("aa", 1, 1, 1);
        dueDrops("aba", 1, 3, 2, 1);
        dueDrops("aabb", 1, 2, 3, 2, 1);
        dueDrops("aaaaaaaaaa", 1, 1, 1, 1, 1, 1, 1, 1, 1, 1, 1);
        dueDrops("aaaaazzzzz", 1, 2, 3, 4, 5, 6, 5, 4, 3, 2, 1);
    }

    private static void dropsWhereverTheyStand() {
        dueDrops("abc", 1, 3, 3, 1);
        dueDrops("abca", 1, 4, 6, 3, 1);
        dueDrops(TEN, 1, 10, 45, 120, 210, 252, 210, 120, 45, 10, 1);
    }

    private static void dropsNothing() {
        for (String letters : new String[] {"", "a", "aa", "abab", TEN}) {
            SpellDesk x = new SpellDesk();
            type(x, letters);
            due("drops(0) of " + letters, x.drops(0), 1);
            dueTyped(x, letters);
        }
    }

    private static void dropsAll() {
        for (String letters : new String[] {"a", "aa", "abab", TEN}) {
            SpellDesk x = new SpellDesk();
            type(x, letters);
            due("drops(all) of " + letters, x.drops(letters.length()), 1);
            dueTyped(x, letters);
        }
    }

    private static void dropsBelowZero() {
        for (String letters : new String[] {"", "a", TEN}) {
            SpellDesk x = new SpellDesk();
            type(x, letters);
            due("drops(-1) of " + letters, x.drops(-1), 0);
            due("drops(least int) of " + letters, x.drops(Integer.MIN_VALUE), 0);
        }
    }

    private static void dropsTooMany() {
        for (String letters : new String[] {"", "a", "abab", TEN}) {
            SpellDesk x = new SpellDesk();
            type(x, letters);
            due("drops(one too many) of " + letters, x.drops(letters.length() + 1), 0);
            due("drops(11) of " + letters, x.drops(11), 0);
            due("drops(greatest int) of " + letters, x.drops(Integer.MAX_VALUE), 0);
        }
        SpellDesk x = new SpellDesk();
        type(x, TEN);
        x.back();
        due("drops(10) after back", x.drops(10), 0);
        x.wipe();
        due("drops(1) after wipe", x.drops(1), 0);
    }
}
