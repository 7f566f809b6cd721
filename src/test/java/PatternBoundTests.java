import java.util.function.Supplier;

/** The bounds that section 2 and fill() name: how many, the PATTERN, a and b, and what is divided. */
public final class PatternBoundTests {
    private static void dueKeys(int many, int pattern, int a, int b, String want) {
        String what = "pattern " + pattern + " of " + many + " with " + a + " and " + b;
        for (int row = 0; row < 4; row++) {
            if (many <= Checks.ROOM[row]) {
                Checks.due(what + " in row " + row, Checks.keys(Checks.filled(row, many, pattern, a, b), row), want);
            }
        }
    }

    /** The key at one place of row 3, which can be the longest. */
    private static void dueKey(int many, int pattern, int a, int b, int place, int want) {
        String what = "pattern " + pattern + " of " + many + " with " + a + " and " + b + " at " + place;
        Checks.due(what, Checks.filled(3, many, pattern, a, b).key(3, place), want);
    }

    // ==== what fill() lets, and what it throws

    private static void manyHasBounds() {
        for (int row = 0; row < 4; row++) {
            int r = row;
            int most = Checks.ROOM[row];
            for (int pattern = 0; pattern < 8; pattern++) {
                int p = pattern;
                for (int many : new int[] {-1, most + 1, Checks.LEAST, Checks.GREATEST}) {
                    Checks.dueThrow("fill of " + many, Checks.ARGUMENT, Checks::busy, x -> x.fill(r, many, p, 0, 1));
                }
                for (int many : new int[] {0, 1, most - 1, most}) {
                    Runweaver x = Checks.dueDone("fill of " + many, 0, Runweaver::new, y -> y.fill(r, many, p, 0, 1));
                    Checks.due("many then", x.many(r), many);
                    Checks.due("stamps given then", x.house(4), row < 2 ? many : 0);
                }
            }
        }
        Checks.dueThrow("fill of 320 in row 2", Checks.ARGUMENT, Checks::busy, x -> x.fill(2, 320, 0, 0, 1));
    }

    private static void patternsAreEight() {
        for (int pattern : new int[] {-1, 8, Checks.LEAST, Checks.GREATEST}) {
            Checks.dueThrow("fill by " + pattern, Checks.ARGUMENT, Checks::busy, x -> x.fill(0, 2, pattern, 0, 1));
            Checks.dueThrow("fill of none by " + pattern, Checks.ARGUMENT, Checks::busy,
                    x -> x.fill(3, 0, pattern, 0, 1));
        }
        Runweaver first = Checks.dueDone("fill by 0", 0, Runweaver::new, x -> x.fill(0, 2, 0, 5, 7));
        Checks.dueRow(first, 0, "5 5", "0 1");
        Runweaver last = Checks.dueDone("fill by 7", 0, Runweaver::new, x -> x.fill(0, 2, 7, 0, 1));
        Checks.dueRow(last, 0, "468 381", "0 1");
    }

    private static void firstNumberHasBounds() {
        for (int pattern = 0; pattern < 8; pattern++) {
            int p = pattern;
            for (int a : new int[] {-1000, 1000, Checks.LEAST, Checks.GREATEST}) {
                Checks.dueThrow("fill with a " + a, Checks.ARGUMENT, Checks::busy, x -> x.fill(0, 2, p, a, 1));
                Checks.dueThrow("fill of none with a " + a, Checks.ARGUMENT, Checks::busy, x -> x.fill(0, 0, p, a, 1));
            }
            for (int a : new int[] {-999, 999}) {
                Runweaver x = Checks.dueDone("fill with a " + a, 0, Runweaver::new, y -> y.fill(2, 1, p, a, 1));
                Checks.due("the first key", x.key(2, 0), p < 7 ? a : a < 0 ? 33 : 391);
            }
        }
    }

    private static void secondNumberHasBounds() {
        for (int pattern = 0; pattern < 8; pattern++) {
            int p = pattern;
            for (int b : new int[] {0, -1, 100, Checks.LEAST, Checks.GREATEST}) {
                Checks.dueThrow("fill with b " + b, Checks.ARGUMENT, Checks::busy, x -> x.fill(0, 2, p, 0, b));
                Checks.dueThrow("fill of none with b " + b, Checks.ARGUMENT, Checks::busy, x -> x.fill(0, 0, p, 0, b));
            }
            Checks.dueDone("fill with b 1", 0, Runweaver::new, x -> x.fill(0, 2, p, 0, 1));
            Checks.dueDone("fill with b 99", 0, Runweaver::new, x -> x.fill(0, 2, p, 0, 99));
        }
        dueKeys(2, 1, 0, 1, "0 1");
        dueKeys(2, 1, 0, 99, "0 99");
    }

    private static void allThatItHadGoes() {
        for (int row = 0; row < 4; row++) {
            int r = row;
            int most = Checks.ROOM[row];
            Supplier<Runweaver> full = () -> Checks.filled(r, most, 7, 0, 1);
            Runweaver none = Checks.dueDone("fill of a full row with none", most, full, x -> x.fill(r, 0, 7, 0, 1));
            Checks.due("many then", none.many(r), 0);
            Runweaver one = Checks.dueDone("fill of a full row with one", most, full, x -> x.fill(r, 1, 0, 4, 1));
            Checks.dueRow(one, r, "4", row < 2 ? "" + most : "-1");
            Runweaver again = Checks.dueDone("fill of a full row with all", most, full, x -> x.fill(r, most, 0, 4, 1));
            Checks.due("its last key", again.key(r, most - 1), 4);
            Checks.due("its last stamp", again.stamp(r, most - 1), row < 2 ? 2 * most - 1 : -1);
            Runweaver had = Checks.dueDone("fill of a row of one", 1, () -> Checks.with(r, 9),
                    x -> x.fill(r, 2, 0, 4, 1));
            Checks.dueRow(had, r, "4 4", row < 2 ? "1 2" : "-1 -1");
        }
    }

    // ==== the patterns

    private static void noneAndOne() {
        for (int pattern = 0; pattern < 8; pattern++) {
            dueKeys(0, pattern, 5, 3, "");
            if (pattern < 7) {
                dueKeys(1, pattern, 5, 3, "5");
                dueKeys(1, pattern, -999, 99, "-999");
            }
        }
    }

    private static void alike() {
        dueKeys(2, 0, -999, 1, "-999 -999");
        dueKeys(2, 0, 999, 99, "999 999");
        dueKey(320, 0, 999, 99, 319, 999);
    }

    private static void risingAndFalling() {
        dueKeys(3, 1, -999, 99, "-999 -900 -801");
        dueKeys(3, 2, 999, 99, "999 900 801");
        dueKey(320, 1, 999, 99, 319, 32580);
        dueKey(320, 1, -999, 1, 319, -680);
        dueKey(320, 2, -999, 99, 319, -32580);
        dueKey(320, 2, 999, 1, 319, 680);
    }

    private static void sawStartsAgain() {
        dueKeys(3, 3, 5, 1, "5 5 5");
        dueKeys(5, 3, -1, 2, "-1 0 -1 0 -1");
        dueKeys(4, 3, 5, 4, "5 6 7 8");
        dueKeys(4, 3, 5, 5, "5 6 7 8");
        dueKeys(5, 3, 5, 4, "5 6 7 8 5");
        int[] places = {98, 99, 197, 198, 296, 297, 319};
        int[] keys = {108, 10, 108, 10, 108, 10, 32};
        for (int k = 0; k < places.length; k++) {
            dueKey(320, 3, 10, 99, places[k], keys[k]);
        }
    }

    private static void runsRiseAndFall() {
        dueKeys(4, 4, 5, 1, "5 5 5 5");
        dueKeys(9, 4, -1, 2, "-1 0 0 -1 -1 0 0 -1 -1");
        dueKeys(3, 4, 5, 3, "5 6 7");
        dueKeys(3, 4, 5, 4, "5 6 7");
        dueKeys(4, 4, 5, 3, "5 6 7 7");
        dueKeys(7, 4, 5, 3, "5 6 7 7 6 5 5");
        int[] places = {98, 99, 100, 197, 198, 199, 296, 297, 319};
        int[] keys = {108, 108, 107, 10, 10, 11, 108, 108, 86};
        for (int k = 0; k < places.length; k++) {
            dueKey(320, 4, 10, 99, places[k], keys[k]);
        }
    }

    private static void pipesHaveMiddles() {
        dueKeys(1, 5, 9, 5, "9");
        dueKeys(2, 5, 9, 5, "9 9");
        dueKeys(3, 5, 9, 5, "9 14 9");
        dueKeys(4, 5, 9, 5, "9 14 14 9");
        dueKeys(5, 5, -9, 5, "-9 -4 1 -4 -9");
        int[] places = {0, 1, 158, 159, 160, 161, 318, 319};
        int[] keys = {999, 1098, 16641, 16740, 16740, 16641, 1098, 999};
        for (int k = 0; k < places.length; k++) {
            dueKey(320, 5, 999, 99, places[k], keys[k]);
        }
        dueKey(319, 5, 999, 99, 158, 16641);
        dueKey(319, 5, 999, 99, 159, 16740);
        dueKey(319, 5, 999, 99, 160, 16641);
    }

    private static void twoByTurns() {
        dueKeys(2, 6, 5, 9, "5 14");
        dueKeys(3, 6, 5, 9, "5 14 6");
        dueKeys(4, 6, 5, 1, "5 6 6 5");
        // what is divided is k alone: -999 + 0 and -999 + 99 - 0
        dueKeys(6, 6, -999, 99, "-999 -900 -998 -901 -997 -902");
        dueKey(320, 6, 999, 99, 318, 1158);
        dueKey(320, 6, 999, 99, 319, 939);
    }

    private static void drawnIsBroughtBack() {
        // 1000 * 65 + a + 999 is 65535, 65536 and 65537: the greatest rest, none, and one
        dueKeys(5, 7, -464, 65, "452 45 266 107 416");
        dueKeys(5, 7, -463, 65, "25 102 503 284 101");
        dueKeys(5, 7, -462, 65, "110 159 228 461 298");
        // the least first number is 1000, the greatest one 100998, by which an int would wrap around undivided
        dueKeys(5, 7, -999, 1, "33 270 447 132 493");
        dueKeys(5, 7, 999, 99, "151 60 5 450 387");
        dueKeys(5, 7, 998, 99, "66 3 280 273 190");
        dueKey(320, 7, 999, 99, 149, 8);
        dueKey(320, 7, 999, 99, 319, 326);
        dueKey(320, 7, -999, 1, 319, 168);
    }

    private static void drawnKeysHaveBounds() {
        Runweaver x = Checks.filled(3, 320, 7, -999, 1);
        Checks.due("least", x.end(3, false), 0);
        Checks.due("its place", x.first(3, 0, false), 103);
        Checks.due("greatest", x.end(3, true), 511);
        Checks.due("its place", x.first(3, 511, false), 194);
        Runweaver y = Checks.filled(3, 320, 7, 999, 99);
        Checks.due("least", y.end(3, false), 0);
        Checks.due("greatest", y.end(3, true), 510);
    }

    public static void main(String[] args) {
        Checks.test("promise 2: if many is not 0 to the most that the ROW can have", PatternBoundTests::manyHasBounds);
        Checks.test("promise 2: pattern not 0 to 7", PatternBoundTests::patternsAreEight);
        Checks.test("promise 2: a not -999 to 999", PatternBoundTests::firstNumberHasBounds);
        Checks.test("promise 2: or b not 1 to 99", PatternBoundTests::secondNumberHasBounds);
        Checks.test("promise 2: all that it had goes", PatternBoundTests::allThatItHadGoes);
        Checks.test("a ROW of many ITEMS: none, and one", PatternBoundTests::noneAndOne);
        Checks.test("0 ALIKE: a", PatternBoundTests::alike);
        Checks.test("1 RISING: a + k * b. 2 FALLING: a - k * b", PatternBoundTests::risingAndFalling);
        Checks.test("3 SAW: a + (k MOD b)", PatternBoundTests::sawStartsAgain);
        Checks.test("4 RUNS: if k / b is even; otherwise", PatternBoundTests::runsRiseAndFall);
        Checks.test("5 PIPES: the smaller one of k and many - 1 - k", PatternBoundTests::pipesHaveMiddles);
        Checks.test("6 TWO: what is divided is rounded down", PatternBoundTests::twoByTurns);
        Checks.test("7 DRAWN: (1000 * b + a + 999) MOD 65536 at first", PatternBoundTests::drawnIsBroughtBack);
        Checks.test("7 DRAWN: the KEY is x MOD 512", PatternBoundTests::drawnKeysHaveBounds);
        Checks.end();
    }
}
