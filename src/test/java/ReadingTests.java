import java.util.ArrayList;
import java.util.Arrays;
import java.util.List;
import java.util.function.IntBinaryOperator;

/**
 * Sentences that no other test bears by itself: what the Terms say of the whole, and how answers fit together. Most
 * are looked at in rows of all patterns, as they are made and after changes.
 */
public final class ReadingTests {
    private static final int[] SIZES = {0, 1, 2, 3, 17, 60};

    private interface Look {
        void at(Runweaver x, int row, String what);
    }

    private record Named(String name, Checks.Call call) {
    }

    // each of them is let in Checks.busy()
    private static final List<Named> ACTS = List.of(
            new Named("fill", x -> x.fill(0, 2, 0, 0, 1)), new Named("add", x -> x.add(1, 0)),
            new Named("put", x -> x.put(2, 0, 0)), new Named("drop", x -> x.drop(3, 0)),
            new Named("clear", x -> x.clear(0)), new Named("exchange", x -> x.exchange(1, 0)),
            new Named("swap", x -> x.swap(2, 0, 1)), new Named("turn", x -> x.turn(3)),
            new Named("roll", x -> x.roll(0, 1)), new Named("keep", x -> x.keep(1, 0, 1)),
            new Named("sort", x -> x.sort(2)), new Named("copy", x -> x.copy(3, 0)),
            new Named("join", x -> x.join(0, 1)), new Named("merge", x -> x.merge(1, 1)));

    private static final List<Named> ASKED_OF_PLACES = List.of(
            new Named("many", x -> x.many(0)), new Named("key", x -> x.key(1, 0)),
            new Named("stamp", x -> x.stamp(0, 1)), new Named("rank", x -> x.rank(2, 2)),
            new Named("would", x -> x.would(3, 3)), new Named("wouldStamp", x -> x.wouldStamp(0, 2)),
            new Named("wrongAt", x -> x.wrongAt(2, 0)), new Named("after", x -> x.after(2, 1)),
            new Named("runAt", x -> x.runAt(3, 0)), new Named("text", x -> x.text(3, 1, 20)));

    private static final List<Named> ASKED_OF_ROWS = List.of(
            new Named("isSorted", x -> x.isSorted(0)), new Named("isFalling", x -> x.isFalling(1)),
            new Named("isKept", x -> x.isKept(0)), new Named("wrong by 0", x -> x.wrong(2, 0)),
            new Named("wrong by 1", x -> x.wrong(2, 1)), new Named("right", x -> x.right(3)),
            new Named("ties", x -> x.ties(0)), new Named("runs", x -> x.runs(3)),
            new Named("longest", x -> x.longest(2)), new Named("count", x -> x.count(0, 5)),
            new Named("below", x -> x.below(1, 2)), new Named("first", x -> x.first(2, 4, false)),
            new Named("last", x -> x.first(2, 4, true)), new Named("least", x -> x.end(3, false)),
            new Named("greatest", x -> x.end(3, true)), new Named("unlike", x -> x.unlike(0)),
            new Named("most", x -> x.most(2)), new Named("sum", x -> x.sum(1)), new Named("same", x -> x.same(0, 2)),
            new Named("bag", x -> x.bag(2, 0)), new Named("mark by keys", x -> x.mark(0, false)),
            new Named("mark by stamps", x -> x.mark(0, true)));

    private static final List<Named> OF_THE_WHOLE = List.of(
            new Named("house", x -> x.house(0)), new Named("isSound", x -> x.isSound()),
            new Named("digest", x -> x.digest()));

    // ==== rows to look at

    private static void inManyRows(Look look) {
        for (int row = 0; row < 4; row++) {
            for (int pattern = 0; pattern < 8; pattern++) {
                for (int many : SIZES) {
                    for (int change = 0; change < 4; change++) {
                        String what = " of row " + row + " of " + many + " by " + pattern + " with change " + change;
                        look.at(made(row, many, pattern, change), row, what);
                    }
                }
            }
        }
    }

    private static Runweaver made(int row, int many, int pattern, int change) {
        Runweaver x = Checks.filled(row, many, pattern, -9, 7);
        switch (change) {
            case 1:
                x.turn(row);
                break;
            case 2:
                x.roll(row, many / 3);
                x.turn(row);
                x.keep(row, many / 5, many);
                break;
            case 3:
                // each thing stands twice then
                x.keep(row, 0, many / 2);
                x.join(row, row);
                break;
            default:
        }
        return x;
    }

    private static int[] keys(Runweaver x, int row) {
        int[] keys = new int[x.many(row)];
        for (int place = 0; place < keys.length; place++) {
            keys[place] = x.key(row, place);
        }
        return keys;
    }

    private static int[] stamps(Runweaver x, int row) {
        int[] stamps = new int[x.many(row)];
        for (int place = 0; place < stamps.length; place++) {
            stamps[place] = x.stamp(row, place);
        }
        return stamps;
    }

    private static int sign(int first, int second) {
        return Integer.compare(first, second);
    }

    /** How many pairs of places have a first key that is greater (1), the same (0) or less (-1). */
    private static int pairs(int[] keys, int sign) {
        int pairs = 0;
        for (int second = 0; second < keys.length; second++) {
            for (int first = 0; first < second; first++) {
                pairs += sign(keys[first], keys[second]) == sign ? 1 : 0;
            }
        }
        return pairs;
    }

    private static int others(int[] ahead, int[] then) {
        int others = 0;
        for (int place = 0; place < ahead.length; place++) {
            others += ahead[place] == then[place] ? 0 : 1;
        }
        return others;
    }

    // ==== what the document says of the whole

    private static void twoOfThingsAndTwoOfKeys() {
        for (int row = 0; row < 4; row++) {
            Runweaver x = Checks.filled(row, 7, 4, 0, 3);
            Checks.dueRow(x, row, "0 1 2 2 1 0 0", row < 2 ? "0 1 2 3 4 5 6" : "-1 -1 -1 -1 -1 -1 -1");
        }
    }

    private static void oneStoryOfARow() {
        for (int row = 0; row < 4; row++) {
            boolean isOfThings = row < 2;
            Runweaver x = Checks.filled(row, 6, 4, 0, 3);
            Checks.due("text as it is made", x.text(row, 0, 20), "0 1 2 2 1 0");
            Checks.due("pairs that stand the wrong way", x.wrong(row, 0), 6);
            int[] ranks = {0, 2, 4, 5, 3, 1};
            for (int place = 0; place < 6; place++) {
                Checks.due("where it would go", x.rank(row, place), ranks[place]);
            }
            Checks.due("runs", x.runs(row) + ", first " + x.runAt(row, 0) + ", longest " + x.longest(row),
                    "3, first 4, longest 4");
            Checks.due("turned", x.turn(row), 0);
            Checks.due("rolled", x.roll(row, 2), 6);
            Checks.due("changed", x.put(row, 1, 5), 2);
            Checks.dueRow(x, row, "2 5 1 0 0 1", isOfThings ? "3 6 1 0 5 4" : "-1 -1 -1 -1 -1 -1");
            Checks.due("sorted", x.sort(row), 5);
            Checks.dueRow(x, row, "0 0 1 1 2 5", isOfThings ? "0 5 1 4 3 6" : "-1 -1 -1 -1 -1 -1");
            Checks.due("merged", x.merge(row, row), 12);
            Checks.due("keys then", Checks.keys(x, row), "0 0 0 0 1 1 1 1 2 2 5 5");
            Checks.due("their stamps", x.stamp(row, 2) + " " + x.stamp(row, 3), isOfThings ? "0 5" : "-1 -1");
            Checks.due("joined", x.join(row, row), 24);
            Checks.due("pairs that stand the wrong way then", x.wrong(row, 1), 52);
            Checks.due("house", Checks.house(x), "24 7 0 0 " + (isOfThings ? 7 : 0) + " 3");
        }
    }

    private static void eachObjectHasItsOwn() {
        Runweaver x = new Runweaver();
        Runweaver y = new Runweaver();
        Runweaver alone = new Runweaver();
        for (int call = 0; call < 40; call++) {
            x.add(call % 4, call % 7);
            alone.add(call % 4, call % 7);
            y.fill(call % 4, 20, 7, call, 3);
            y.sort(call % 4);
            y.knock();
            y.copy(3, call % 4);
        }
        Checks.due("digest of one beside another one", x.digest(), alone.digest());
        Checks.due("would of one beside another one", x.would(0, 5), alone.would(0, 5));
    }

    private static void nextStampsInBothRows() {
        Runweaver x = new Runweaver();
        x.fill(1, 2, 0, 0, 1);
        x.add(0, 4);
        x.put(1, 0, 3);
        Checks.addAll(x, 3, 9, 8);
        x.join(0, 3);
        x.fill(0, 0, 0, 0, 1);
        x.add(1, 6);
        x.copy(3, 0);
        x.put(0, 1, 7);
        Checks.dueRow(x, 1, "3 0 6", "3 1 6");
        Checks.dueRow(x, 0, "9 7", "7 9");
        Checks.due("stamps given", x.house(4), 10);
    }

    private static void stampsInTheSequenceOfKeys() {
        for (int from = 2; from < 4; from++) {
            for (int into = 0; into < 2; into++) {
                Runweaver copied = Checks.with(from, 6, 4, 5, 4);
                copied.copy(from, into);
                Checks.dueRow(copied, into, "6 4 5 4", "0 1 2 3");
                Runweaver joined = Checks.with(from, 6, 4, 5, 4);
                joined.add(into, 9);
                joined.join(into, from);
                Checks.dueRow(joined, into, "9 6 4 5 4", "0 1 2 3 4");
                Runweaver merged = Checks.with(from, 4, 5, 6);
                Checks.addAll(merged, into, 5, 7);
                merged.merge(into, from);
                Checks.dueRow(merged, into, "4 5 5 6 7", "2 0 3 4 1");
            }
        }
    }

    private static void dueCounted(List<Named> calls, int acts) {
        for (Named it : calls) {
            Runweaver x = Checks.busy();
            int ahead = x.house(1);
            Object got = Checks.answer(x, it.call);
            Checks.due(it.name + " throws", got.toString().startsWith("throws."), false);
            Checks.due("acts after " + it.name, x.house(1), ahead + acts);
            Checks.due("refusals after " + it.name, x.house(2), 1);
        }
    }

    private static void fourteenAreActs() {
        Checks.due("acts", ACTS.size(), 14);
        dueCounted(ACTS, 1);
        dueCounted(ASKED_OF_PLACES, 0);
        dueCounted(ASKED_OF_ROWS, 0);
        dueCounted(OF_THE_WHOLE, 0);
        dueCounted(List.of(new Named("knock", x -> x.knock())), 0);
    }

    /** Also what the calls after it answer: each is asked again after all others. */
    private static void askingChangesNothing() {
        List<Named> asked = new ArrayList<>(ASKED_OF_PLACES);
        asked.addAll(ASKED_OF_ROWS);
        asked.addAll(OF_THE_WHOLE);
        for (Named it : asked) {
            Checks.dueAsked(it.name, Checks.answer(Checks.busy(), it.call), Checks::busy, it.call);
        }
        Runweaver x = Checks.busy();
        for (int times = 0; times < 3; times++) {
            for (Named it : asked) {
                Checks.due(it.name + " after others", Checks.answer(x, it.call),
                        Checks.answer(Checks.busy(), it.call));
            }
        }
        Checks.due("digest after all", x.digest(), Checks.busy().digest());
    }

    // ==== section 2 and promise 2

    /** The keys of a pattern, made step by step. */
    private static int[] patternKeys(int pattern, int many, int a, int b) {
        int[] keys = new int[many];
        long x = (1000L * b + a + 999) % 65536;
        int step = 0;
        boolean isUp = true;
        for (int k = 0; k < many; k++) {
            x = (x * 25173 + 13849) % 65536;
            switch (pattern) {
                case 1 -> keys[k] = k == 0 ? a : keys[k - 1] + b;
                case 2 -> keys[k] = k == 0 ? a : keys[k - 1] - b;
                case 3 -> keys[k] = a + step;
                case 4 -> keys[k] = isUp ? a + step : a + b - 1 - step;
                case 5 -> keys[k] = k == 0 || k == many - 1 ? a : k < (many + 1) / 2 ? keys[k - 1] + b
                        : keys[many - 1 - k];
                case 6 -> keys[k] = k == 0 ? a : k == 1 ? a + b : k % 2 == 0 ? keys[k - 2] + 1 : keys[k - 2] - 1;
                case 7 -> keys[k] = (int) (x & 511);
                default -> keys[k] = a;
            }
            step++;
            if (step == b) {
                step = 0;
                isUp = !isUp;
            }
        }
        return keys;
    }

    private static int mark(int[] numbers) {
        int e = 17;
        for (int number : numbers) {
            e = e * 31 + number;
        }
        return e;
    }

    private static void eachPlaceOfEachPattern() {
        for (int pattern = 0; pattern < 8; pattern++) {
            for (int a : new int[] {-999, -1, 0, 999}) {
                for (int many : new int[] {320, 319, 8}) {
                    Runweaver x = new Runweaver();
                    for (int b = 1; b <= 99; b++) {
                        String what = "pattern " + pattern + " of " + many + " with " + a + " and " + b;
                        int[] want = patternKeys(pattern, many, a, b);
                        x.fill(3, many, pattern, a, b);
                        Checks.due(what, x.mark(3, false), mark(want));
                        Checks.due("sum, " + what, x.sum(3), Arrays.stream(want).sum());
                    }
                }
            }
        }
    }

    private static void stampsOfAPatternPlaceByPlace() {
        for (int row = 0; row < 2; row++) {
            for (int pattern = 0; pattern < 8; pattern++) {
                Runweaver x = Checks.with(1 - row, 5, 5, 5);
                x.fill(row, 6, pattern, 0, 2);
                Checks.due("stamps of pattern " + pattern, Checks.stamps(x, row), "3 4 5 6 7 8");
                x.fill(row, 2, pattern, 0, 2);
                Checks.due("stamps of pattern " + pattern + " again", Checks.stamps(x, row), "9 10");
            }
        }
    }

    // ==== section 3

    private static void allPairsOfPlaces() {
        inManyRows((x, row, what) -> {
            int many = x.many(row);
            int[] keys = keys(x, row);
            Checks.due("wrong" + what, x.wrong(row, 0), pairs(keys, 1));
            Checks.due("right" + what, x.right(row), pairs(keys, -1));
            Checks.due("ties" + what, x.ties(row), pairs(keys, 0));
            Checks.due("all pairs" + what, x.wrong(row, 0) + x.right(row) + x.ties(row), many * (many - 1) / 2);
        });
    }

    private static void bothWaysOfCounting() {
        inManyRows((x, row, what) -> {
            Checks.due("both ways" + what, x.wrong(row, 0), x.wrong(row, 1));
            Checks.due("none is wrong" + what, x.wrong(row, 0) == 0, x.isSorted(row));
        });
        for (int pattern = 0; pattern < 8; pattern++) {
            Runweaver x = Checks.filled(3, 320, pattern, 3, 11);
            Checks.due("both ways of a full row by " + pattern, x.wrong(3, 0), x.wrong(3, 1));
            x.turn(3);
            Checks.due("both ways of it, turned", x.wrong(3, 0), x.wrong(3, 1));
        }
    }

    private static void eachWrongPairHasTwoPlaces() {
        inManyRows((x, row, what) -> {
            int together = 0;
            for (int place = 0; place < x.many(row); place++) {
                together += x.wrongAt(row, place);
            }
            Checks.due("wrong at all places" + what, together, 2 * x.wrong(row, 1));
        });
    }

    /** Of neighbours: whether they stand so all along the row. */
    private static boolean all(int[] numbers, IntBinaryOperator isSo) {
        for (int place = 1; place < numbers.length; place++) {
            if (isSo.applyAsInt(place - 1, place) == 0) {
                return false;
            }
        }
        return true;
    }

    private static void kindsByNeighbours() {
        inManyRows((x, row, what) -> {
            int[] keys = keys(x, row);
            int[] stamps = stamps(x, row);
            boolean isSorted = all(keys, (first, next) -> keys[first] > keys[next] ? 0 : 1);
            boolean isFalling = all(keys, (first, next) -> keys[next] < keys[first] ? 1 : 0);
            boolean isKept = all(keys,
                    (first, next) -> keys[first] == keys[next] && stamps[first] > stamps[next] ? 0 : 1);
            Checks.due("isSorted" + what, x.isSorted(row), isSorted);
            Checks.due("isFalling" + what, x.isFalling(row), isFalling);
            Checks.due("isKept" + what, x.isKept(row), isKept);
        });
    }

    private static int[] ranks(Runweaver x, int row) {
        int[] ranks = new int[x.many(row)];
        for (int place = 0; place < ranks.length; place++) {
            ranks[place] = x.rank(row, place);
        }
        return ranks;
    }

    private static void rankOfLesserAndOfSameAhead() {
        inManyRows((x, row, what) -> {
            int[] keys = keys(x, row);
            int[] ranks = ranks(x, row);
            boolean[] isTaken = new boolean[keys.length];
            for (int place = 0; place < keys.length; place++) {
                int rank = x.below(row, keys[place]);
                for (int ahead = 0; ahead < place; ahead++) {
                    rank += keys[ahead] == keys[place] ? 1 : 0;
                }
                Checks.due("rank at " + place + what, ranks[place], rank);
                Checks.due("rank that another place has, too" + what, isTaken[rank], false);
                isTaken[rank] = true;
            }
        });
    }

    private static void sortGoesByRanks() {
        inManyRows((x, row, what) -> {
            int[] keys = keys(x, row);
            int[] stamps = stamps(x, row);
            int[] ranks = ranks(x, row);
            int moved = x.sort(row);
            int others = 0;
            for (int place = 0; place < keys.length; place++) {
                Checks.due("key from " + place + what, x.key(row, ranks[place]), keys[place]);
                Checks.due("stamp from " + place + what, x.stamp(row, ranks[place]), stamps[place]);
                boolean isOther = x.key(row, place) != keys[place] || x.stamp(row, place) != stamps[place];
                others += isOther ? 1 : 0;
            }
            Checks.due("places with another item" + what, moved, others);
        });
    }

    private static void wouldGoesByRanks() {
        inManyRows((x, row, what) -> {
            for (int place = 0; place < x.many(row); place++) {
                int rank = x.rank(row, place);
                Checks.due("would" + what, x.would(row, rank), x.key(row, place));
                Checks.due("wouldStamp" + what, x.wouldStamp(row, rank), x.stamp(row, place));
            }
        });
    }

    private static void runsLieBetweenPartings() {
        inManyRows((x, row, what) -> {
            int[] keys = keys(x, row);
            int runs = 0;
            int longest = 0;
            int start = 0;
            for (int place = 0; place < keys.length; place++) {
                boolean isParted = place + 1 == keys.length || keys[place + 1] < keys[place];
                if (isParted) {
                    for (int within = start; within <= place; within++) {
                        Checks.due("runAt " + within + what, x.runAt(row, within), place + 1 - within);
                    }
                    runs++;
                    longest = Math.max(longest, place + 1 - start);
                    start = place + 1;
                }
            }
            Checks.due("runs" + what, x.runs(row), runs);
            Checks.due("longest" + what, x.longest(row), longest);
        });
    }

    // ==== acts

    private static void addLeavesThoseAhead() {
        inManyRows((x, row, what) -> {
            String keys = Checks.keys(x, row);
            String stamps = Checks.stamps(x, row);
            int given = x.house(4);
            String between = keys.isEmpty() ? "" : " ";
            Checks.due("add" + what, x.add(row, -77), x.many(row));
            Checks.due("keys after add" + what, Checks.keys(x, row), keys + between + "-77");
            Checks.due("stamps after add" + what, Checks.stamps(x, row), stamps + between + (row < 2 ? given : -1));
        });
    }

    private static void exchangeTellsByHowMuch() {
        inManyRows((x, row, what) -> {
            for (int place = 0; place + 1 < x.many(row); place++) {
                int ahead = x.wrong(row, 1);
                int after = x.after(row, place);
                int more = x.exchange(row, place);
                Checks.due("exchange at " + place + what, more, x.wrong(row, 1) - ahead);
                Checks.due("after at " + place + what, after, x.wrong(row, 1));
            }
        });
    }

    private static void swapTellsWhetherUnlike() {
        inManyRows((x, row, what) -> {
            int[] keys = keys(x, row);
            int[] stamps = stamps(x, row);
            for (int place = 0; place < keys.length; place++) {
                int other = keys.length - 1 - place;
                Checks.due("swap of " + place + what, x.swap(row, place, other), keys[place] == keys[other] ? 0 : 1);
                Checks.due("key at " + other + what, x.key(row, other), keys[place]);
                Checks.due("stamp at " + other + what, x.stamp(row, other), stamps[place]);
                x.swap(row, other, place);
            }
            Checks.due("keys after swap and swap" + what, others(keys, keys(x, row)), 0);
        });
    }

    private static void turnAndRollTellOtherKeys() {
        inManyRows((x, row, what) -> {
            int[] ahead = keys(x, row);
            int[] stamps = stamps(x, row);
            int turned = x.turn(row);
            int[] then = keys(x, row);
            Checks.due("turn" + what, turned, others(ahead, then));
            for (int place = 0; place < then.length; place++) {
                Checks.due("key, turned" + what, then[place], ahead[then.length - 1 - place]);
            }
            int by = then.length * 2 / 3;
            int rolled = x.roll(row, by);
            int[] last = keys(x, row);
            int[] lastStamps = stamps(x, row);
            Checks.due("roll" + what, rolled, others(then, last));
            for (int place = 0; place < last.length; place++) {
                int from = (place + by) % last.length;
                Checks.due("key, rolled" + what, last[place], then[from]);
                Checks.due("stamp, rolled" + what, lastStamps[place], stamps[last.length - 1 - from]);
            }
        });
    }

    private static void dropAndKeepLeaveTheRest() {
        inManyRows((x, row, what) -> {
            int[] keys = keys(x, row);
            int[] stamps = stamps(x, row);
            int at = keys.length / 3;
            if (keys.length > 0) {
                Checks.due("drop" + what, x.drop(row, at), keys[at]);
                for (int place = 0; place < x.many(row); place++) {
                    int from = place < at ? place : place + 1;
                    Checks.due("key after drop" + what, x.key(row, place), keys[from]);
                    Checks.due("stamp after drop" + what, x.stamp(row, place), stamps[from]);
                }
            }
            int many = x.many(row);
            int from = many / 4;
            int[] rest = keys(x, row);
            Checks.due("keep" + what, x.keep(row, from, many - from), many - 2 * from);
            Checks.due("keys after keep" + what,
                    Arrays.equals(keys(x, row), Arrays.copyOfRange(rest, from, many - from)), true);
        });
    }

    private static void copyMakesAlikeRows() {
        for (int into = 0; into < 4; into++) {
            int i = into;
            inManyRows((x, row, what) -> {
                x.add(i, 3);
                int many = x.many(row);
                int[] stamps = stamps(x, row);
                int given = x.house(4);
                Checks.due("copy into " + i + what, x.copy(row, i), many);
                Checks.due("same" + what, x.same(row, i), true);
                for (int place = 0; place < many; place++) {
                    int want = i == row || row < 2 && i < 2 ? stamps[place] : i < 2 ? given + place : -1;
                    Checks.due("stamp in row " + i + what, x.stamp(i, place), want);
                }
            });
        }
    }

    /** Two objects are made alike; in one of them it is merged, in the other one joined and sorted. */
    private static void mergedIsJoinedAndSorted() {
        int[][] sizes = {{0, 0}, {0, 5}, {5, 0}, {1, 1}, {60, 1}, {30, 40}, {75, 75}, {149, 1}};
        for (int pattern = 0; pattern < 8; pattern++) {
            for (int[] many : sizes) {
                for (int other = 1; other < 4; other++) {
                    Runweaver merged = twoSorted(pattern, many, other);
                    Runweaver joined = twoSorted(pattern, many, other);
                    String what = " of " + many[0] + " and " + many[1] + " by " + pattern + ", row " + other;
                    Checks.due("merge" + what, merged.merge(0, other), many[0] + many[1]);
                    joined.join(0, other);
                    joined.sort(0);
                    Checks.due("keys" + what, Checks.keys(merged, 0), Checks.keys(joined, 0));
                    Checks.due("stamps" + what, merged.mark(0, true), joined.mark(0, true));
                    Checks.due("stamps given" + what, merged.house(4), joined.house(4));
                }
            }
        }
    }

    private static Runweaver twoSorted(int pattern, int[] many, int other) {
        Runweaver x = new Runweaver();
        x.fill(other, many[1], (pattern + 3) % 8, 0, 3);
        x.fill(0, many[0], pattern, 0, 5);
        x.turn(0);
        x.turn(other);
        x.sort(0);
        x.sort(other);
        return x;
    }

    // ==== what is asked of a row

    private static void answersFitTheKeys() {
        inManyRows((x, row, what) -> {
            int[] keys = keys(x, row);
            int[] sorted = keys.clone();
            Arrays.sort(sorted);
            int unlike = 0;
            int most = Checks.NOTHING;
            int times = 0;
            for (int place = 0; place < keys.length; place++) {
                if (place == 0 || sorted[place] != sorted[place - 1]) {
                    unlike++;
                    int count = x.count(row, sorted[place]);
                    most = count > times ? sorted[place] : most;
                    times = Math.max(times, count);
                }
            }
            Checks.due("unlike" + what, x.unlike(row), unlike);
            Checks.due("most" + what, x.most(row), most);
            Checks.due("sum" + what, x.sum(row), Arrays.stream(keys).sum());
            Checks.due("least" + what, x.end(row, false), keys.length == 0 ? Checks.NOTHING : sorted[0]);
            Checks.due("greatest" + what, x.end(row, true),
                    keys.length == 0 ? Checks.NOTHING : sorted[keys.length - 1]);
            Checks.due("mark by keys" + what, x.mark(row, false), mark(keys));
            Checks.due("mark by stamps" + what, x.mark(row, true), mark(stamps(x, row)));
        });
    }

    private static void countBelowAndFirstFitTheKeys() {
        inManyRows((x, row, what) -> {
            int[] keys = keys(x, row);
            for (int key = -20; key <= 20; key++) {
                int k = key;
                int first = -1;
                int last = -1;
                for (int place = 0; place < keys.length; place++) {
                    first = first < 0 && keys[place] == k ? place : first;
                    last = keys[place] == k ? place : last;
                }
                String ofKey = " of key " + k + what;
                Checks.due("count" + ofKey, x.count(row, k), (int) Arrays.stream(keys).filter(n -> n == k).count());
                Checks.due("below" + ofKey, x.below(row, k), (int) Arrays.stream(keys).filter(n -> n < k).count());
                Checks.due("first" + ofKey, x.first(row, k, false), first);
                Checks.due("last" + ofKey, x.first(row, k, true), last);
            }
        });
    }

    private static void textFitsTheKeys() {
        inManyRows((x, row, what) -> {
            int[] keys = keys(x, row);
            for (int from = 0; from <= keys.length; from++) {
                int many = (from * 7 + 20) % 21;
                StringBuilder want = new StringBuilder();
                for (int place = from; place < from + many && place < keys.length; place++) {
                    want.append(place == from ? "" : " ").append(keys[place]);
                }
                Checks.due("text of " + many + " from " + from + what, x.text(row, from, many), want.toString());
            }
        });
    }

    private static void bagIsOfKeysAsOften() {
        for (int other = 0; other < 4; other++) {
            int o = other;
            inManyRows((x, row, what) -> {
                if (o != row) {
                    x.copy(row, o);
                    x.turn(o);
                    x.roll(o, x.many(o) / 2);
                    Checks.due("bag" + what, x.bag(row, o), true);
                    Checks.due("same" + what, x.same(row, o), Checks.keys(x, row).equals(Checks.keys(x, o)));
                    if (x.many(o) > 0) {
                        x.put(o, 0, x.key(o, 0) + 1);
                        Checks.due("bag with another key" + what, x.bag(row, o), false);
                        Checks.due("same with another key" + what, x.same(row, o),
                                Checks.keys(x, row).equals(Checks.keys(x, o)));
                    }
                }
            });
        }
    }

    // ==== the whole

    private static void isSoundInManyRows() {
        inManyRows((x, row, what) -> {
            Checks.due("isSound" + what, x.isSound(), true);
            for (int other = 0; other < 4; other++) {
                if (other != row) {
                    x.join(other, row);
                    x.turn(other);
                }
            }
            Checks.due("isSound with others" + what, x.isSound(), true);
            x.sort(0);
            x.sort(1);
            Checks.due("isSound with two that are sorted" + what, x.isSound(), true);
            Checks.due("digest asked twice" + what, x.digest(), x.digest());
        });
    }

    private static void houseCountsAllRows() {
        inManyRows((x, row, what) -> {
            x.add(0, 2);
            x.add(3, 5);
            x.join(2, row);
            int items = 0;
            int sorted = 0;
            for (int each = 0; each < 4; each++) {
                items += x.many(each);
                sorted += x.isSorted(each) ? 1 : 0;
            }
            Checks.due("items" + what, x.house(0), items);
            Checks.due("sorted rows" + what, x.house(5), sorted);
        });
    }

    public static void main(String[] args) {
        Checks.test("two of things that have a key and a stamp, two of keys alone",
                ReadingTests::twoOfThingsAndTwoOfKeys);
        Checks.test("They are made by patterns, changed, turned, rolled, joined, sorted and merged; and one asks",
                ReadingTests::oneStoryOfARow);
        Checks.test("An object: each has what it has by itself", ReadingTests::eachObjectHasItsOwn);
        Checks.test("A new ITEM of the ROWS 0 and 1 is a THING with the next STAMP",
                ReadingTests::nextStampsInBothRows);
        Checks.test("which get their STAMPS in the sequence in which the KEYS stand there",
                ReadingTests::stampsInTheSequenceOfKeys);
        Checks.test("==== acts: the calls ahead of which that stands, and no others", ReadingTests::fourteenAreActs);
        Checks.test("what is asked: no state changes but those described", ReadingTests::askingChangesNothing);
        Checks.test("The KEY at each PLACE k", ReadingTests::eachPlaceOfEachPattern);
        Checks.test("promise 2: THINGS get their STAMPS PLACE by PLACE", ReadingTests::stampsOfAPatternPlaceByPlace);
        Checks.test("A pair of PLACES are two of them, the smaller one first; promise 46: together all pairs",
                ReadingTests::allPairsOfPlaces);
        Checks.test("promise 29: both are the same; promise 46: 0 just if it is SORTED",
                ReadingTests::bothWaysOfCounting);
        Checks.test("promise 22: in how many WRONG pairs that PLACE is, of all",
                ReadingTests::eachWrongPairHasTwoPlaces);
        Checks.test("SORTED, FALLING and promise 28, neighbour by neighbour", ReadingTests::kindsByNeighbours);
        Checks.test("RANK of a PLACE: how many have a lesser KEY, and how many ahead the same, together",
                ReadingTests::rankOfLesserAndOfSameAhead);
        Checks.test("To sort a ROW: each ITEM goes to the PLACE that its RANK tells (as it is ahead of that)",
                ReadingTests::sortGoesByRanks);
        Checks.test("promise 46: would stand, if the ROW was sorted now, at the PLACE that its RANK tells",
                ReadingTests::wouldGoesByRanks);
        Checks.test("what lies between such partings are its RUNS", ReadingTests::runsLieBetweenPartings);
        Checks.test("promise 3: A new ITEM comes behind all others", ReadingTests::addLeavesThoseAhead);
        Checks.test("promises 7 and 23: by how much WRONG of the ROW is greater then",
                ReadingTests::exchangeTellsByHowMuch);
        Checks.test("promise 8: Two ITEMS change their PLACES", ReadingTests::swapTellsWhetherUnlike);
        Checks.test("promises 9 and 10: at how many PLACES another KEY stands then",
                ReadingTests::turnAndRollTellOtherKeys);
        Checks.test("promises 5 and 11: those behind it move up; those stay", ReadingTests::dropAndKeepLeaveTheRest);
        Checks.test("promise 13: A ROW becomes as another one", ReadingTests::copyMakesAlikeRows);
        Checks.test("promise 46: what is merged of them and what is joined and sorted are the same",
                ReadingTests::mergedIsJoinedAndSorted);
        Checks.test("promises 37 to 40 and 43, by the keys that stand there", ReadingTests::answersFitTheKeys);
        Checks.test("promises 34 to 36, by the keys that stand there", ReadingTests::countBelowAndFirstFitTheKeys);
        Checks.test("promise 25: the KEYS from that PLACE on, as many as are meant and there",
                ReadingTests::textFitsTheKeys);
        Checks.test("promises 41 and 42: the same KEY at each PLACE; each KEY as often",
                ReadingTests::bagIsOfKeysAsOften);
        Checks.test("promise 46: it always is", ReadingTests::isSoundInManyRows);
        Checks.test("promise 44: ITEMS of all ROWS, how many ROWS are SORTED", ReadingTests::houseCountsAllRows);
        Checks.end();
    }
}
