import java.util.ArrayList;
import java.util.List;

/**
 * "A refused call changes nothing": each call that can be refused is made on one of two desks of
 * the same past, and then both answer everything alike, also after they were used further.
 */
public final class RefusedTest extends DeskTest {
    private static final int[] NO_LETTERS = {-1, 26, Integer.MIN_VALUE, Integer.MAX_VALUE};
    private static final int[] WRONG_TIMES = {0, -1, 1000001, Integer.MIN_VALUE, Integer.MAX_VALUE};

    /** A past of calls that leads to a desk. */
    private interface Past {
        SpellDesk desk();
    }

    private interface Call {
        int on(SpellDesk x);
    }

    public static void main(String[] args) {
        about("Promise 2: key, refused");
        refusedKeys();
        about("Promise 3: back, refused");
        refusedBacks();
        about("Promise 7: learn, refused");
        refusedTimes();
        refusedLengths();
        refusedWhenFull();
        about("Promise 8: forget, refused");
        refusedForgets();
        about("Promises 6, 10 to 18: asking for what is not there");
        refusedQuestions();
        finish();
    }

    private static void refusedKeys() {
        for (Past past : pasts()) {
            for (int letter : NO_LETTERS) {
                refused("key(" + letter + ")", past, x -> number(x.key(letter)), 0);
            }
        }
        for (int letter : new int[] {0, 25}) {
            refused("key(" + letter + ") on ten", () -> some("abcdefghij"), x -> number(x.key(letter)), 0);
        }
    }

    private static void refusedBacks() {
        refused("back() on a new desk", SpellDesk::new, x -> number(x.back()), 0);
        refused("back() on nothing", () -> some(""), x -> number(x.back()), 0);
        refused("back() on nothing, full", () -> fullAnd(""), x -> number(x.back()), 0);
    }

    private static void refusedTimes() {
        for (Past past : pasts()) {
            for (int n : WRONG_TIMES) {
                refused("learn(" + n + ")", past, x -> x.learn(n), -1);
            }
        }
    }

    private static void refusedLengths() {
        refused("learn(1) on a new desk", SpellDesk::new, x -> x.learn(1), -2);
        for (String letters : new String[] {"", "catscatsc", "abcdefghij"}) {
            refused("learn(1) of " + letters, () -> some(letters), x -> x.learn(1), -2);
            refused("learn(1) of " + letters + ", full", () -> fullAnd(letters), x -> x.learn(1), -2);
        }
    }

    private static void refusedWhenFull() {
        for (String letters : new String[] {"z", "aa", "mmmmmmmm"}) {
            refused("learn(1) of " + letters + ", full", () -> fullAnd(letters), x -> x.learn(1), -3);
            refused("learn(1000000) of " + letters + ", full", () -> fullAnd(letters), x -> x.learn(1000000), -3);
        }
    }

    private static void refusedForgets() {
        for (Past past : pasts()) {
            for (int k : noRanks(past)) {
                refused("forget(" + k + ")", past, x -> number(x.forget(k)), 0);
            }
        }
    }

    private static void refusedQuestions() {
        for (Past past : pasts()) {
            for (int k : noRanks(past)) {
                refused("letter(" + k + ", 0)", past, x -> x.letter(k, 0), -1);
                refused("count(" + k + ")", past, x -> x.count(k), 0);
                refused("distance(" + k + ")", past, x -> x.distance(k), -1);
                refused("edit(" + k + ", 0)", past, x -> x.edit(k, 0), -1);
            }
            for (int i : new int[] {-1, 24, Integer.MIN_VALUE, Integer.MAX_VALUE}) {
                refused("typed(" + i + ")", past, x -> x.typed(i), -1);
                refused("letter(0, " + i + ")", past, x -> x.letter(0, i), -1);
                refused("edit(0, " + i + ")", past, x -> x.edit(0, i), -1);
                refused("suggest(" + i + ", 10)", past, x -> x.suggest(i, 10), -1);
                refused("complete(" + i + ")", past, x -> x.complete(i), -1);
                refused("drops(" + i + ")", past, x -> x.drops(i), 0);
            }
            refused("suggest(0, -1)", past, x -> x.suggest(0, -1), -1);
            refused("near(-1)", past, x -> x.near(-1), 0);
        }
        refused("rank() of no word", () -> some("ca"), SpellDesk::rank, -1);
    }

    private static void refused(String call, Past past, Call refusedCall, int answer) {
        SpellDesk asked = past.desk();
        due(call, refusedCall.on(asked), answer);
        dueAlike("after " + call, asked, past.desk());
        SpellDesk used = past.desk();
        due(call, refusedCall.on(used), answer);
        SpellDesk other = past.desk();
        useFurther(used);
        useFurther(other);
        dueAlike("later after " + call, used, other);
    }

    private static void useFurther(SpellDesk x) {
        x.back();
        x.forget(0);
        x.key(1);
        x.learn(3);
        x.key(2);
        x.learn(999999);
        x.forget(1);
    }

    private static void dueAlike(String when, SpellDesk x, SpellDesk y) {
        List<Integer> answers = answers(x);
        List<Integer> others = answers(y);
        due("number of answers " + when, answers.size(), others.size());
        for (int i = 0; i < answers.size() && i < others.size(); i++) {
            due("answer " + i + " " + when, answers.get(i), others.get(i));
        }
    }

    private static List<Integer> answers(SpellDesk x) {
        List<Integer> answers = new ArrayList<>();
        answers.add(x.length());
        for (int i = 0; i <= 10; i++) {
            answers.add(x.typed(i));
            answers.add(x.near(i));
            answers.add(x.drops(i));
        }
        answers.add(x.rank());
        answers.add(x.words());
        for (int k = 0; k < x.words(); k++) {
            addWord(answers, x, k);
        }
        return answers;
    }

    // The letters up to the first that is none, so that a full desk stays under 512 calls.
    private static void addWord(List<Integer> answers, SpellDesk x, int k) {
        answers.add(x.count(k));
        answers.add(x.distance(k));
        answers.add(x.suggest(k, 10));
        answers.add(x.complete(k));
        answers.add(x.edit(k, 0));
        int letter = x.letter(k, 0);
        for (int i = 1; letter != -1 && i <= 8; i++) {
            answers.add(letter);
            letter = x.letter(k, i);
        }
    }

    private static Past[] pasts() {
        return new Past[] {
            SpellDesk::new,
            () -> some(""),
            () -> some("cat"),
            () -> some("ca"),
            () -> some("catscatsc"),
            () -> some("abcdefghij"),
            () -> fullAnd(""),
            () -> fullAnd("x"),
            () -> fullAnd("z"),
        };
    }

    private static SpellDesk some(String letters) {
        SpellDesk x = desk("dog", 4, "cat", 1000000, "catscats", 2, "b", 2);
        type(x, letters);
        return x;
    }

    private static SpellDesk fullAnd(String letters) {
        SpellDesk x = full();
        type(x, letters);
        return x;
    }

    private static int[] noRanks(Past past) {
        return new int[] {-1, past.desk().words(), 24, Integer.MIN_VALUE, Integer.MAX_VALUE};
    }

    private static int number(boolean answer) {
        return answer ? 1 : 0;
    }
}
