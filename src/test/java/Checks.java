import java.util.function.Supplier;

/** What the tests of bounds share: each test bears a sentence; a call is looked at with all that it could change. */
final class Checks {
    static final int NONE = -1;
    static final int NOTHING = -100000;
    static final int REFUSED = -9;
    static final int LEAST = Integer.MIN_VALUE;
    static final int GREATEST = Integer.MAX_VALUE;
    static final String RANGE = "throws.IndexOutOfBoundsException";
    static final String ARGUMENT = "throws.IllegalArgumentException";
    static final int[] ROOM = {150, 150, 150, 320};

    // digest() goes on by house(2), (3), (4), (5) and isSound(): by one more refusal it grows by 31 to the 4th
    private static final long ONE_REFUSAL_IN_DIGEST = 923521;

    private static String sentence = "";
    private static int tests;
    private static int asked;
    private static int wrong;

    private Checks() {
    }

    interface Call {
        Object of(Runweaver x);
    }

    static void test(String says, Runnable test) {
        sentence = says;
        tests++;
        int ahead = asked;
        try {
            test.run();
        } catch (RuntimeException e) {
            due("the test itself", "throws." + e.getClass().getSimpleName(), "nothing thrown");
        }
        due("has asked something", asked > ahead, true);
    }

    static void due(String what, Object got, Object want) {
        asked++;
        if (!want.equals(got)) {
            wrong++;
            System.out.println("\"" + sentence + "\": " + what + " answered " + got + ", due is " + want);
        }
    }

    static Object answer(Runweaver x, Call call) {
        try {
            return call.of(x);
        } catch (RuntimeException e) {
            return "throws." + e.getClass().getSimpleName();
        }
    }

    /** A call that throws: all stays as it is, what is counted too. */
    static void dueThrow(String what, String want, Supplier<Runweaver> made, Call call) {
        Runweaver x = made.get();
        String ahead = all(x);
        long digest = x.digest();
        int refusals = x.house(2);
        int stamps = x.house(4);
        due(what, answer(x, call), want);
        due("all, after " + what, all(x), ahead);
        due("digest, after " + what, x.digest(), digest);
        due("refusals, after " + what, x.house(2), refusals);
        due("the next stamp, after " + what, nextStamp(x), stamps);
    }

    /** A call that is refused: all stays as it is, but that it is counted. */
    static void dueRefused(String what, Supplier<Runweaver> made, Call call) {
        Runweaver x = made.get();
        String ahead = all(x);
        long digest = x.digest();
        int refusals = x.house(2);
        int stamps = x.house(4);
        due(what, answer(x, call), REFUSED);
        due("all, after " + what, all(x), ahead);
        due("digest, after " + what, x.digest(), digest + ONE_REFUSAL_IN_DIGEST);
        due("refusals, after " + what, x.house(2), refusals + 1);
        due("the next stamp, after " + what, nextStamp(x), stamps);
    }

    /** A call that asks: it answers so, twice, and all stays as it is. */
    static void dueAsked(String what, Object want, Supplier<Runweaver> made, Call call) {
        Runweaver x = made.get();
        String ahead = all(x);
        int refusals = x.house(2);
        due(what, answer(x, call), want);
        due(what + ", asked again", answer(x, call), want);
        due("all, after " + what, all(x), ahead);
        due("refusals, after " + what, x.house(2), refusals);
    }

    /** An act that is let: it answers so, and is counted as an act, not as refused. */
    static Runweaver dueDone(String what, Object want, Supplier<Runweaver> made, Call call) {
        Runweaver x = made.get();
        int acts = x.house(1);
        int refusals = x.house(2);
        due(what, answer(x, call), want);
        due("acts, after " + what, x.house(1), acts + 1);
        due("refusals, after " + what, x.house(2), refusals);
        return x;
    }

    /** All that a call could change, but for the refusals. */
    static String all(Runweaver x) {
        StringBuilder told = new StringBuilder();
        for (int row = 0; row < 4; row++) {
            told.append(x.many(row)).append(" by keys ").append(x.mark(row, false));
            told.append(" by stamps ").append(x.mark(row, true));
            told.append(" [").append(x.text(row, 0, 20)).append("] ");
        }
        for (int what : new int[] {0, 1, 3, 4, 5}) {
            told.append(' ').append(x.house(what));
        }
        return told.toString();
    }

    /** The stamp that a new thing gets. */
    static int nextStamp(Runweaver x) {
        if (x.many(0) == 0) {
            x.add(0, 1);
        } else {
            x.put(0, 0, 1);
        }
        return x.stamp(0, 0);
    }

    static Runweaver with(int row, int... keys) {
        Runweaver x = new Runweaver();
        addAll(x, row, keys);
        return x;
    }

    static void addAll(Runweaver x, int row, int... keys) {
        for (int key : keys) {
            x.add(row, key);
        }
    }

    static Runweaver filled(int row, int many, int pattern, int a, int b) {
        Runweaver x = new Runweaver();
        x.fill(row, many, pattern, a, b);
        return x;
    }

    /** Items in each row, and something in each number of the house. */
    static Runweaver busy() {
        Runweaver x = with(0, 5, 3, 5);
        addAll(x, 1, 1, 2);
        addAll(x, 2, 4, -9, 4);
        addAll(x, 3, 7, 7, 9, 8);
        x.merge(0, 1);
        x.knock();
        x.knock();
        return x;
    }

    static String keys(Runweaver x, int row) {
        StringBuilder told = new StringBuilder();
        for (int from = 0; from < x.many(row); from += 20) {
            told.append(from == 0 ? "" : " ").append(x.text(row, from, 20));
        }
        return told.toString();
    }

    static String stamps(Runweaver x, int row) {
        StringBuilder told = new StringBuilder();
        for (int place = 0; place < x.many(row); place++) {
            told.append(place == 0 ? "" : " ").append(x.stamp(row, place));
        }
        return told.toString();
    }

    static void dueRow(Runweaver x, int row, String keys, String stamps) {
        due("keys of row " + row, keys(x, row), keys);
        due("stamps of row " + row, stamps(x, row), stamps);
    }

    static String house(Runweaver x) {
        StringBuilder told = new StringBuilder();
        for (int what = 0; what <= 5; what++) {
            told.append(what == 0 ? "" : " ").append(x.house(what));
        }
        return told.toString();
    }

    static void end() {
        String all = tests + " tests, " + asked + " answers";
        System.out.println(wrong == 0 ? all + ": all as due" : all + ": " + wrong + " not as due");
        if (wrong != 0) {
            System.exit(1);
        }
    }
}
