import java.util.function.Supplier;

/** The bounds that section 3 and promises 16 to 47 name: what is asked of places, of rows and of the whole. */
public final class AskBoundTests {
    private static Supplier<Runweaver> row(int row, int... keys) {
        return () -> Checks.with(row, keys);
    }

    private static Supplier<Runweaver> alike(int row, int many) {
        return () -> Checks.filled(row, many, 0, 5, 1);
    }

    private static Supplier<Runweaver> rising(int row, int many) {
        return () -> Checks.filled(row, many, 1, 0, 1);
    }

    private static Supplier<Runweaver> falling(int row, int many) {
        return () -> Checks.filled(row, many, 2, 0, 1);
    }

    /** A full row of alike keys, but for one at a place. */
    private static Supplier<Runweaver> alikeBut(int row, int place, int key) {
        return () -> {
            Runweaver x = Checks.filled(row, Checks.ROOM[row], 0, 5, 1);
            x.put(row, place, key);
            return x;
        };
    }

    private static void due(String what, Object want, Supplier<Runweaver> made, Checks.Call call) {
        Checks.dueAsked(what, want, made, call);
    }

    // ==== promises 16 to 18: many, key, stamp

    private static void manyOfNoneAndOfAll() {
        for (int row = 0; row < 4; row++) {
            int r = row;
            due("many of none", 0, Runweaver::new, x -> x.many(r));
            due("many of one", 1, row(r, 5), x -> x.many(r));
            due("many of all", Checks.ROOM[r], alike(r, Checks.ROOM[r]), x -> x.many(r));
        }
    }

    private static void keyAtBothEnds() {
        for (int row = 0; row < 4; row++) {
            int r = row;
            int last = Checks.ROOM[row] - 1;
            due("key at the first place", 0, falling(r, last + 1), x -> x.key(r, 0));
            due("key at the last place", -last, falling(r, last + 1), x -> x.key(r, last));
            due("a key of -9", -9, falling(r, last + 1), x -> x.key(r, 9));
            due("the greatest key", 99999, row(r, 99999), x -> x.key(r, 0));
            due("the least key", -99999, row(r, -99999), x -> x.key(r, 0));
        }
    }

    private static void stampAtBothEnds() {
        for (int row = 0; row < 4; row++) {
            int r = row;
            int last = Checks.ROOM[row] - 1;
            boolean isOfThings = row < 2;
            due("stamp at the first place", isOfThings ? 0 : -1, alike(r, last + 1), x -> x.stamp(r, 0));
            due("stamp at the last place", isOfThings ? last : -1, alike(r, last + 1), x -> x.stamp(r, last));
        }
    }

    // ==== section 3 and promises 19 to 24: rank, would, wouldStamp, wrongAt, after, runAt

    private static void rankGoesFromNoneToLess() {
        for (int row = 0; row < 4; row++) {
            int r = row;
            int last = Checks.ROOM[row] - 1;
            due("rank of one", 0, row(r, 5), x -> x.rank(r, 0));
            due("rank of the greatest, first one", last, falling(r, last + 1), x -> x.rank(r, 0));
            due("rank of the least, last one", 0, falling(r, last + 1), x -> x.rank(r, last));
            due("rank of the first of alike ones", 0, alike(r, last + 1), x -> x.rank(r, 0));
            due("rank of the last of alike ones", last, alike(r, last + 1), x -> x.rank(r, last));
            due("rank, if a lesser one stands behind", 1, row(r, 5, 4), x -> x.rank(r, 0));
            due("rank, if the same one stands behind", 0, row(r, 5, 5), x -> x.rank(r, 0));
            due("rank, if the same one stands ahead", 1, row(r, 5, 5), x -> x.rank(r, 1));
            due("rank, if a greater one stands ahead", 0, row(r, 6, 5), x -> x.rank(r, 1));
            due("rank of the greatest key", 1, row(r, 99999, -99999), x -> x.rank(r, 0));
        }
    }

    private static void wouldAtBothEnds() {
        for (int row = 0; row < 4; row++) {
            int r = row;
            int last = Checks.ROOM[row] - 1;
            due("would of one", -9, row(r, -9), x -> x.would(r, 0));
            due("would at the first place", -last, falling(r, last + 1), x -> x.would(r, 0));
            due("would at the last place", 0, falling(r, last + 1), x -> x.would(r, last));
            due("would of all but one, at the last place", 0, falling(r, last), x -> x.would(r, last - 1));
            due("would of the ends", 99999, row(r, 99999, -99999), x -> x.would(r, 1));
        }
    }

    private static void wouldStampAtBothEnds() {
        for (int row = 0; row < 4; row++) {
            int r = row;
            int last = Checks.ROOM[row] - 1;
            due("wouldStamp of one", row < 2 ? 0 : -1, row(r, 5), x -> x.wouldStamp(r, 0));
            due("wouldStamp at the first place", row < 2 ? last : -1, falling(r, last + 1), x -> x.wouldStamp(r, 0));
            due("wouldStamp at the last place", row < 2 ? 0 : -1, falling(r, last + 1), x -> x.wouldStamp(r, last));
            due("wouldStamp of alike ones", row < 2 ? last : -1, alike(r, last + 1), x -> x.wouldStamp(r, last));
            due("wouldStamp of alike ones that turned", row < 2 ? 1 : -1, turned(r, 5, 5), x -> x.wouldStamp(r, 0));
        }
    }

    private static void wrongAtBothEnds() {
        for (int row = 0; row < 4; row++) {
            int r = row;
            int last = Checks.ROOM[row] - 1;
            due("wrongAt of one", 0, row(r, 5), x -> x.wrongAt(r, 0));
            due("wrongAt of alike ones", 0, alike(r, last + 1), x -> x.wrongAt(r, last));
            for (int place : new int[] {0, 1, last - 1, last}) {
                due("wrongAt " + place + " of a row that falls", last, falling(r, last + 1), x -> x.wrongAt(r, place));
                due("wrongAt " + place + " of a row that rises", 0, rising(r, last + 1), x -> x.wrongAt(r, place));
            }
            due("wrongAt the first place, by the last one", 1, alikeBut(r, last, 4), x -> x.wrongAt(r, 0));
            due("wrongAt the last place, by all others", last, alikeBut(r, last, 4), x -> x.wrongAt(r, last));
            due("wrongAt the last place, by the first one", 1, alikeBut(r, 0, 6), x -> x.wrongAt(r, last));
            due("wrongAt the first place, by all others", last, alikeBut(r, 0, 6), x -> x.wrongAt(r, 0));
        }
    }

    private static void afterNeedsOneBehind() {
        for (int row = 0; row < 4; row++) {
            int r = row;
            int most = Checks.ROOM[row];
            int pairs = most * (most - 1) / 2;
            Checks.dueThrow("after in a row of one", Checks.RANGE, row(r, 5), x -> x.after(r, 0));
            Checks.dueThrow("after at the last place", Checks.RANGE, falling(r, most), x -> x.after(r, most - 1));
            due("after in a row of two that rise", 1, row(r, 5, 6), x -> x.after(r, 0));
            due("after in a row of two that fall", 0, row(r, 6, 5), x -> x.after(r, 0));
            due("after in a row of two alike ones", 0, row(r, 5, 5), x -> x.after(r, 0));
            due("after at the last but one", pairs - 1, falling(r, most), x -> x.after(r, most - 2));
            due("after at the first one", pairs - 1, falling(r, most), x -> x.after(r, 0));
            due("after in a row that rises", 1, rising(r, most), x -> x.after(r, most - 2));
            due("after of the ends", 1, row(r, -99999, 99999), x -> x.after(r, 0));
        }
    }

    private static void runAtBothEnds() {
        for (int row = 0; row < 4; row++) {
            int r = row;
            int most = Checks.ROOM[row];
            due("runAt of one", 1, row(r, 5), x -> x.runAt(r, 0));
            due("runAt the first place of one run", most, alike(r, most), x -> x.runAt(r, 0));
            due("runAt the last place of one run", 1, alike(r, most), x -> x.runAt(r, most - 1));
            due("runAt the last but one", 2, rising(r, most), x -> x.runAt(r, most - 2));
            due("runAt the first place of a row that falls", 1, falling(r, most), x -> x.runAt(r, 0));
            due("runAt, parted ahead of the last one", most - 1, alikeBut(r, most - 1, 4), x -> x.runAt(r, 0));
            due("runAt, not parted by a greater one", most, alikeBut(r, most - 1, 6), x -> x.runAt(r, 0));
            due("runAt ahead of a parting", 1, row(r, 5, 4, 6), x -> x.runAt(r, 0));
            due("runAt behind a parting", 2, row(r, 5, 4, 6), x -> x.runAt(r, 1));
        }
    }

    // ==== promise 25: text

    private static void textFromPlaces() {
        for (int row = 0; row < 4; row++) {
            int r = row;
            int most = Checks.ROOM[row];
            due("text from the last place", "7", row(r, 5, 6, 7), x -> x.text(r, 2, 20));
            due("text from behind the last place", "", row(r, 5, 6, 7), x -> x.text(r, 3, 20));
            due("text without items", "", Runweaver::new, x -> x.text(r, 0, 20));
            Checks.dueThrow("text without items from 1", Checks.RANGE, Runweaver::new, x -> x.text(r, 1, 20));
            for (int from : new int[] {-1, 4, Checks.LEAST, Checks.GREATEST}) {
                Checks.dueThrow("text from " + from, Checks.RANGE, row(r, 5, 6, 7), x -> x.text(r, from, 20));
                Checks.dueThrow("text of none from " + from, Checks.RANGE, row(r, 5, 6, 7), x -> x.text(r, from, 0));
            }
            due("text from the last place of a full row", most - 1 + "", rising(r, most), x -> x.text(r, most - 1, 2));
            due("text from behind a full row", "", rising(r, most), x -> x.text(r, most, 20));
            Checks.dueThrow("text from farther", Checks.RANGE, rising(r, most), x -> x.text(r, most + 1, 20));
        }
    }

    private static void textOfSoMany() {
        for (int row = 0; row < 4; row++) {
            int r = row;
            due("text of none", "", row(r, 5, 6, 7), x -> x.text(r, 0, 0));
            due("text of one", "5", row(r, 5, 6, 7), x -> x.text(r, 0, 1));
            due("text of all but one", "5 6", row(r, 5, 6, 7), x -> x.text(r, 0, 2));
            due("text of all", "5 6 7", row(r, 5, 6, 7), x -> x.text(r, 0, 3));
            due("text of more", "5 6 7", row(r, 5, 6, 7), x -> x.text(r, 0, 4));
            due("text of 19", "5 5 5 5 5 5 5 5 5 5 5 5 5 5 5 5 5 5 5", alike(r, 21), x -> x.text(r, 0, 19));
            due("text of 20", "5 5 5 5 5 5 5 5 5 5 5 5 5 5 5 5 5 5 5 5", alike(r, 21), x -> x.text(r, 1, 20));
            for (int many : new int[] {-1, 21, Checks.LEAST, Checks.GREATEST}) {
                Checks.dueThrow("text of " + many, Checks.ARGUMENT, row(r, 5, 6), x -> x.text(r, 0, many));
                Checks.dueThrow("text of " + many + " at the end", Checks.ARGUMENT, row(r, 5, 6),
                        x -> x.text(r, 2, many));
                Checks.dueThrow("text of " + many + " without items", Checks.ARGUMENT, Runweaver::new,
                        x -> x.text(r, 0, many));
            }
            due("text of the ends", "-99999 99999 0 -9", row(r, -99999, 99999, 0, -9), x -> x.text(r, 0, 20));
        }
    }

    // ==== promises 26 to 28: isSorted, isFalling, isKept

    private static void noneOrOneIsBoth() {
        for (int row = 0; row < 4; row++) {
            int r = row;
            due("isSorted of none", true, Runweaver::new, x -> x.isSorted(r));
            due("isFalling of none", true, Runweaver::new, x -> x.isFalling(r));
            due("isSorted of one", true, row(r, 5), x -> x.isSorted(r));
            due("isFalling of one", true, row(r, 5), x -> x.isFalling(r));
            due("isSorted of two alike ones", true, row(r, 5, 5), x -> x.isSorted(r));
            due("isFalling of two alike ones", false, row(r, 5, 5), x -> x.isFalling(r));
            due("isSorted of two that rise", true, row(r, 5, 6), x -> x.isSorted(r));
            due("isFalling of two that rise", false, row(r, 5, 6), x -> x.isFalling(r));
            due("isSorted of two that fall", false, row(r, 6, 5), x -> x.isSorted(r));
            due("isFalling of two that fall", true, row(r, 6, 5), x -> x.isFalling(r));
        }
    }

    private static void sortedAtBothEnds() {
        for (int row = 0; row < 4; row++) {
            int r = row;
            int last = Checks.ROOM[row] - 1;
            due("isSorted of a full row", true, alike(r, last + 1), x -> x.isSorted(r));
            due("isSorted, if the last one is less", false, alikeBut(r, last, 4), x -> x.isSorted(r));
            due("isSorted, if the last one is greater", true, alikeBut(r, last, 6), x -> x.isSorted(r));
            due("isSorted, if the first one is greater", false, alikeBut(r, 0, 6), x -> x.isSorted(r));
            due("isSorted, if the first one is less", true, alikeBut(r, 0, 4), x -> x.isSorted(r));
            due("isSorted of the ends", true, row(r, -99999, 99999), x -> x.isSorted(r));
        }
    }

    private static void fallingAtBothEnds() {
        for (int row = 0; row < 4; row++) {
            int r = row;
            int last = Checks.ROOM[row] - 1;
            due("isFalling of a full row", true, falling(r, last + 1), x -> x.isFalling(r));
            Supplier<Runweaver> alikeAtTheEnd = () -> {
                Runweaver x = Checks.filled(r, last + 1, 2, 0, 1);
                x.put(r, last, 1 - last);
                return x;
            };
            due("isFalling, if the last two are alike", false, alikeAtTheEnd, x -> x.isFalling(r));
            Supplier<Runweaver> alikeAtTheStart = () -> {
                Runweaver x = Checks.filled(r, last + 1, 2, 0, 1);
                x.put(r, 0, -1);
                return x;
            };
            due("isFalling, if the first two are alike", false, alikeAtTheStart, x -> x.isFalling(r));
            due("isFalling of the ends", true, row(r, 99999, -99999), x -> x.isFalling(r));
        }
    }

    private static void keptOfNeighbours() {
        for (int row = 0; row < 4; row++) {
            int r = row;
            int last = Checks.ROOM[row] - 1;
            due("isKept of none", true, Runweaver::new, x -> x.isKept(r));
            due("isKept of one", true, row(r, 5), x -> x.isKept(r));
            due("isKept of a full row", true, alike(r, last + 1), x -> x.isKept(r));
            boolean isOfKeys = row > 1;
            due("isKept, if the last two changed", isOfKeys, exchanged(r, last - 1), x -> x.isKept(r));
            due("isKept, if the first two changed", isOfKeys, exchanged(r, 0), x -> x.isKept(r));
            due("isKept of two that changed", isOfKeys, turned(r, 5, 5), x -> x.isKept(r));
            due("isKept of two other ones that changed", true, turned(r, 5, 6), x -> x.isKept(r));
            due("isKept, if one stands between them", true, turned(r, 5, 6, 5), x -> x.isKept(r));
            due("isKept, if alike ones stand ahead", isOfKeys, turned(r, 4, 5, 5), x -> x.isKept(r));
        }
        Supplier<Runweaver> twice = () -> {
            Runweaver x = Checks.with(0, 5);
            x.join(0, 0);
            return x;
        };
        due("isKept of the same STAMP twice", true, twice, x -> x.isKept(0));
    }

    private static Supplier<Runweaver> exchanged(int row, int place) {
        return () -> {
            Runweaver x = Checks.filled(row, Checks.ROOM[row], 0, 5, 1);
            x.exchange(row, place);
            return x;
        };
    }

    private static Supplier<Runweaver> turned(int row, int... keys) {
        return () -> {
            Runweaver x = Checks.with(row, keys);
            x.turn(row);
            return x;
        };
    }

    // ==== promises 29 to 31: wrong, right, ties

    private static void howIsNoneOrOne() {
        for (int row = 0; row < 4; row++) {
            int r = row;
            due("wrong by 0", 2, row(r, 6, 5, 5), x -> x.wrong(r, 0));
            due("wrong by 1", 2, row(r, 6, 5, 5), x -> x.wrong(r, 1));
            for (int how : new int[] {-1, 2, Checks.LEAST, Checks.GREATEST}) {
                Checks.dueThrow("wrong by " + how, Checks.ARGUMENT, row(r, 6, 5, 5), x -> x.wrong(r, how));
                Checks.dueThrow("wrong of none by " + how, Checks.ARGUMENT, Runweaver::new, x -> x.wrong(r, how));
            }
        }
    }

    /** Which pairs are counted: those that are WRONG (by both ways), those the right way, or those of the same KEY. */
    private enum Pairs {
        WRONG, RIGHT, TIED
    }

    private static void duePairs(Pairs asked, String what, Supplier<Runweaver> made, int row, int... pairs) {
        int want = pairs[asked.ordinal()];
        switch (asked) {
            case WRONG:
                due("wrong by merging " + what, want, made, x -> x.wrong(row, 0));
                due("wrong by counting " + what, want, made, x -> x.wrong(row, 1));
                break;
            case RIGHT:
                due("right " + what, want, made, x -> x.right(row));
                break;
            default:
                due("ties " + what, want, made, x -> x.ties(row));
        }
    }

    private static void pairsOfNoneAndOfAll(Pairs asked) {
        for (int row = 0; row < 4; row++) {
            int r = row;
            int most = Checks.ROOM[row];
            int all = row == 3 ? 51040 : 11175;
            duePairs(asked, "of none", Runweaver::new, r, 0, 0, 0);
            duePairs(asked, "of one", row(r, 5), r, 0, 0, 0);
            duePairs(asked, "of two that fall", row(r, 6, 5), r, 1, 0, 0);
            duePairs(asked, "of two that rise", row(r, 5, 6), r, 0, 1, 0);
            duePairs(asked, "of two alike ones", row(r, 5, 5), r, 0, 0, 1);
            duePairs(asked, "of a full row that falls", falling(r, most), r, all, 0, 0);
            duePairs(asked, "of a full row that rises", rising(r, most), r, 0, all, 0);
            duePairs(asked, "of a full row of alike ones", alike(r, most), r, 0, 0, all);
            duePairs(asked, "of all but one that fall", falling(r, most - 1), r, all - most + 1, 0, 0);
            duePairs(asked, "if the last one is less", alikeBut(r, most - 1, 4), r, most - 1, 0, all - most + 1);
            duePairs(asked, "if the last one is greater", alikeBut(r, most - 1, 6), r, 0, most - 1, all - most + 1);
            duePairs(asked, "if the first one is greater", alikeBut(r, 0, 6), r, most - 1, 0, all - most + 1);
            duePairs(asked, "of the ends", row(r, 99999, -99999, 99999), r, 1, 1, 1);
        }
    }

    // ==== promises 32 and 33: runs, longest

    private static void dueRuns(boolean isLongest, String what, Supplier<Runweaver> made, int row, int runs,
            int longest) {
        if (isLongest) {
            due("longest " + what, longest, made, x -> x.longest(row));
        } else {
            due("runs " + what, runs, made, x -> x.runs(row));
        }
    }

    private static void runsOfNoneAndOfAll(boolean isLongest) {
        for (int row = 0; row < 4; row++) {
            int r = row;
            int most = Checks.ROOM[row];
            dueRuns(isLongest, "of none", Runweaver::new, r, 0, 0);
            dueRuns(isLongest, "of one", row(r, 5), r, 1, 1);
            dueRuns(isLongest, "of two that rise", row(r, 5, 6), r, 1, 2);
            dueRuns(isLongest, "of two alike ones", row(r, 5, 5), r, 1, 2);
            dueRuns(isLongest, "of two that fall", row(r, 6, 5), r, 2, 1);
            dueRuns(isLongest, "of a full row that falls", falling(r, most), r, most, 1);
            dueRuns(isLongest, "of a full row that rises", rising(r, most), r, 1, most);
            dueRuns(isLongest, "of a full row of alike ones", alike(r, most), r, 1, most);
            dueRuns(isLongest, "if the last one is less", alikeBut(r, most - 1, 4), r, 2, most - 1);
            dueRuns(isLongest, "if the first one is greater", alikeBut(r, 0, 6), r, 2, most - 1);
            dueRuns(isLongest, "of two that are as long", row(r, 5, 6, 5, 6), r, 2, 2);
            dueRuns(isLongest, "if the first one is longer", row(r, 5, 6, 7, 5, 6), r, 2, 3);
            dueRuns(isLongest, "if the last one is longer", row(r, 5, 6, 5, 6, 7), r, 2, 3);
        }
    }

    // ==== promises 34 to 36: count, below, first

    private static void countOfNoneAndOfAll() {
        for (int row = 0; row < 4; row++) {
            int r = row;
            int most = Checks.ROOM[row];
            due("count of none", 0, Runweaver::new, x -> x.count(r, 0));
            due("count of all", most, alike(r, most), x -> x.count(r, 5));
            due("count of one less", 0, alike(r, most), x -> x.count(r, 4));
            due("count of one more", 0, alike(r, most), x -> x.count(r, 6));
            due("count at the last place", 1, alikeBut(r, most - 1, 4), x -> x.count(r, 4));
            due("count at the first place", 1, alikeBut(r, 0, 4), x -> x.count(r, 4));
            due("count of what went", 0, () -> kept(r), x -> x.count(r, 7));
        }
    }

    private static void belowNoneAndBelowAll() {
        for (int row = 0; row < 4; row++) {
            int r = row;
            int most = Checks.ROOM[row];
            due("below of none", 0, Runweaver::new, x -> x.below(r, 99999));
            due("below the same key", 0, alike(r, most), x -> x.below(r, 5));
            due("below one more", most, alike(r, most), x -> x.below(r, 6));
            due("below the last one", most - 1, rising(r, most), x -> x.below(r, most - 1));
            due("below, at the last place", 1, alikeBut(r, most - 1, 4), x -> x.below(r, 5));
            due("below, at the first place", 1, alikeBut(r, 0, 4), x -> x.below(r, 5));
            due("below of what stays", 2, () -> kept(r), x -> x.below(r, 99999));
        }
    }

    private static void firstAtBothEnds() {
        for (int row = 0; row < 4; row++) {
            int r = row;
            int last = Checks.ROOM[row] - 1;
            for (boolean isLast : new boolean[] {false, true}) {
                due("first of none", -1, Runweaver::new, x -> x.first(r, 0, isLast));
                due("first of one", 0, row(r, 5), x -> x.first(r, 5, isLast));
                due("first of another key", -1, row(r, 5), x -> x.first(r, 4, isLast));
                due("first, if it stands last alone", last, alikeBut(r, last, 4), x -> x.first(r, 4, isLast));
                due("first, if it stands first alone", 0, alikeBut(r, 0, 4), x -> x.first(r, 4, isLast));
            }
            due("first of all", 0, alike(r, last + 1), x -> x.first(r, 5, false));
            due("last of all", last, alike(r, last + 1), x -> x.first(r, 5, true));
            due("first, if another one stands first", 1, alikeBut(r, 0, 4), x -> x.first(r, 5, false));
            due("last, if another one stands last", last - 1, alikeBut(r, last, 4), x -> x.first(r, 5, true));
            due("first of what went", -1, () -> kept(r), x -> x.first(r, 7, false));
            due("last of what went", -1, () -> kept(r), x -> x.first(r, 7, true));
        }
    }

    private static Runweaver kept(int row) {
        Runweaver x = Checks.with(row, 5, 6, 7, 7);
        x.keep(row, 0, 2);
        return x;
    }

    // ==== promises 37 to 40: end, unlike, most, sum

    private static void endsOfNoneAndOfBounds() {
        for (int row = 0; row < 4; row++) {
            int r = row;
            int last = Checks.ROOM[row] - 1;
            for (boolean isGreatest : new boolean[] {false, true}) {
                due("end of none", -100000, Runweaver::new, x -> x.end(r, isGreatest));
                due("end of the least", -99999, row(r, -99999), x -> x.end(r, isGreatest));
                due("end of the greatest", 99999, row(r, 99999), x -> x.end(r, isGreatest));
                due("end of alike ones", 5, alike(r, last + 1), x -> x.end(r, isGreatest));
            }
            due("least at the last place", 4, alikeBut(r, last, 4), x -> x.end(r, false));
            due("greatest ahead of it", 5, alikeBut(r, last, 4), x -> x.end(r, true));
            due("greatest at the last place", 6, alikeBut(r, last, 6), x -> x.end(r, true));
            due("least at the first place", 4, alikeBut(r, 0, 4), x -> x.end(r, false));
            due("greatest at the first place", 6, alikeBut(r, 0, 6), x -> x.end(r, true));
            due("least of what stays", 5, () -> kept(r), x -> x.end(r, false));
            due("greatest of what stays", 6, () -> kept(r), x -> x.end(r, true));
        }
    }

    private static void unlikeOfNoneAndOfAll() {
        for (int row = 0; row < 4; row++) {
            int r = row;
            int most = Checks.ROOM[row];
            due("unlike of none", 0, Runweaver::new, x -> x.unlike(r));
            due("unlike of one", 1, row(r, 5), x -> x.unlike(r));
            due("unlike of two", 2, row(r, 6, 5), x -> x.unlike(r));
            due("unlike of alike ones", 1, alike(r, most), x -> x.unlike(r));
            due("unlike of unlike ones", most, falling(r, most), x -> x.unlike(r));
            due("unlike, if the last one is less", 2, alikeBut(r, most - 1, 4), x -> x.unlike(r));
            due("unlike, if the first one is greater", 2, alikeBut(r, 0, 6), x -> x.unlike(r));
            due("unlike, each counted once", 2, row(r, 5, 6, 5, 6), x -> x.unlike(r));
        }
    }

    private static void mostOfSeveral() {
        for (int row = 0; row < 4; row++) {
            int r = row;
            int most = Checks.ROOM[row];
            due("most of none", -100000, Runweaver::new, x -> x.most(r));
            due("most of one", -99999, row(r, -99999), x -> x.most(r));
            due("most of one", 99999, row(r, 99999), x -> x.most(r));
            due("most of two, the least", 5, row(r, 6, 5), x -> x.most(r));
            due("most of two, each twice", 5, row(r, 6, 5, 6, 5), x -> x.most(r));
            due("most, if the greater one stands once more", 6, row(r, 6, 5, 6, 5, 6), x -> x.most(r));
            due("most, if the least one stands once less", 6, row(r, 5, 6, 6, 7, 7), x -> x.most(r));
            due("most of unlike ones", 1 - most, falling(r, most), x -> x.most(r));
            due("most of alike ones", 5, alike(r, most), x -> x.most(r));
            due("most, if it stands last", 7, row(r, 5, 6, 7, 7), x -> x.most(r));
        }
    }

    private static void sumOfNoneAndOfBounds() {
        for (int row = 0; row < 4; row++) {
            int r = row;
            due("sum of none", 0, Runweaver::new, x -> x.sum(r));
            due("sum of one", -9, row(r, -9), x -> x.sum(r));
            for (int key : new int[] {-99999, 99999}) {
                Supplier<Runweaver> full = () -> fullOf(r, key);
                due("sum of all " + key, Checks.ROOM[r] * key, full, x -> x.sum(r));
            }
            due("sum of both ends", 0, row(r, -99999, 99999), x -> x.sum(r));
        }
    }

    /** A full row of a key that no pattern makes. */
    private static Runweaver fullOf(int row, int key) {
        Runweaver x = new Runweaver();
        int most = Checks.ROOM[row];
        for (int many = 0; many < most; many++) {
            x.add(row, key);
        }
        return x;
    }

    // ==== promises 41 to 43: same, bag, mark

    private static void dueAlike(boolean isBag, String what, boolean same, boolean bag, int row, int other,
            Supplier<Runweaver> made) {
        if (isBag) {
            due("bag " + what, bag, made, x -> x.bag(row, other));
            due("bag the other way " + what, bag, made, x -> x.bag(other, row));
        } else {
            due("same " + what, same, made, x -> x.same(row, other));
            due("same the other way " + what, same, made, x -> x.same(other, row));
        }
    }

    private static Supplier<Runweaver> both(int row, int[] keys, int other, int... others) {
        return () -> {
            Runweaver x = Checks.with(row, keys);
            Checks.addAll(x, other, others);
            return x;
        };
    }

    private static void alikeOfTwo(boolean isBag) {
        for (int row = 0; row < 4; row++) {
            for (int other = 0; other < 4; other++) {
                if (other != row) {
                    dueAlike(isBag, "of none", true, true, row, other, Runweaver::new);
                    dueAlike(isBag, "of none and one", false, false, row, other, row(row, 5));
                    int[] keys = {5, 6, 5};
                    dueAlike(isBag, "of alike rows", true, true, row, other, both(row, keys, other, 5, 6, 5));
                    dueAlike(isBag, "if one is longer", false, false, row, other, both(row, keys, other, 5, 6, 5, 5));
                    dueAlike(isBag, "if one is shorter", false, false, row, other, both(row, keys, other, 5, 6));
                    dueAlike(isBag, "in another sequence", false, true, row, other, both(row, keys, other, 5, 5, 6));
                    dueAlike(isBag, "of other last keys", false, false, row, other, both(row, keys, other, 5, 6, 6));
                    dueAlike(isBag, "of other first keys", false, false, row, other, both(row, keys, other, 4, 6, 5));
                }
            }
        }
    }

    private static void alikeOfItself(boolean isBag) {
        for (int row = 0; row < 4; row++) {
            int r = row;
            dueAlike(isBag, "of none and itself", true, true, r, r, Runweaver::new);
            dueAlike(isBag, "of one and itself", true, true, r, r, row(r, 5));
            dueAlike(isBag, "of a full row and itself", true, true, r, r, falling(r, Checks.ROOM[r]));
        }
    }

    private static void alikeOfFullRows(boolean isBag) {
        for (int row = 0; row < 3; row++) {
            int r = row;
            int o = (row + 1) % 3;
            Supplier<Runweaver> full = () -> {
                Runweaver x = Checks.filled(r, 150, 7, 0, 1);
                x.fill(o, 150, 7, 0, 1);
                x.fill(3, 151, 7, 0, 1);
                return x;
            };
            dueAlike(isBag, "of full rows", true, true, r, o, full);
            dueAlike(isBag, "of a full row and one with one more", false, false, r, 3, full);
            Supplier<Runweaver> other = () -> {
                Runweaver x = full.get();
                x.put(o, 149, 600);
                return x;
            };
            dueAlike(isBag, "of full rows with another last key", false, false, r, o, other);
            Supplier<Runweaver> turned = () -> {
                Runweaver x = full.get();
                x.turn(o);
                return x;
            };
            dueAlike(isBag, "of a full row and one turned", false, true, r, o, turned);
        }
    }

    private static void markWrapsAround() {
        for (int row = 0; row < 4; row++) {
            int r = row;
            due("mark of none by keys", 17, Runweaver::new, x -> x.mark(r, false));
            due("mark of none by stamps", 17, Runweaver::new, x -> x.mark(r, true));
            due("mark of one by keys", 532, row(r, 5), x -> x.mark(r, false));
            due("mark of one by stamps", row < 2 ? 527 : 526, row(r, 5), x -> x.mark(r, true));
            // 17 * 31 to the 5th is 486695567; these keys bring it just to the bounds of an int, and beyond
            due("mark of the greatest", Checks.GREATEST, row(r, 1798, 9, 30, 12, 1), x -> x.mark(r, false));
            due("mark of one more", Checks.LEAST, row(r, 1798, 9, 30, 12, 2), x -> x.mark(r, false));
            due("mark of the least", Checks.LEAST, row(r, -2852, -9, -30, -12, -2), x -> x.mark(r, false));
            due("mark of one less", Checks.GREATEST, row(r, -2852, -9, -30, -12, -3), x -> x.mark(r, false));
        }
        due("mark of 320 by stamps", -1509407727, alike(3, 320), x -> x.mark(3, true));
        due("mark of 320 times 99999", -367213551, () -> fullOf(3, 99999), x -> x.mark(3, false));
        due("mark of 150 times -99999", 520671921, () -> fullOf(2, -99999), x -> x.mark(2, false));
    }

    // ==== promises 44 to 47: house, knock, isSound, digest

    private static void houseHasBounds() {
        for (int what : new int[] {-1, 6, Checks.LEAST, Checks.GREATEST}) {
            Checks.dueThrow("house of " + what, Checks.ARGUMENT, Checks::busy, x -> x.house(what));
            Checks.dueThrow("house of " + what, Checks.ARGUMENT, Runweaver::new, x -> x.house(what));
        }
        int[] want = {12, 12, 1, 2, 5, 1};
        for (int what = 0; what <= 5; what++) {
            int w = what;
            due("house of " + what, want[what], Checks::busy, x -> x.house(w));
        }
    }

    private static void dueHouse(String what, String want, Runweaver x, Checks.Call call) {
        Checks.answer(x, call);
        Checks.due("house after " + what, Checks.house(x), want);
    }

    private static void actsThatAreCounted() {
        Runweaver x = Checks.with(0, 1, 2, 3);
        dueHouse("exchange of one with itself by swap", "3 4 0 0 3 4", x, y -> y.swap(0, 1, 1));
        dueHouse("roll by none", "3 5 0 0 3 4", x, y -> y.roll(0, 0));
        dueHouse("keep of all", "3 6 0 0 3 4", x, y -> y.keep(0, 0, 3));
        dueHouse("sort of what is sorted", "3 7 0 0 3 4", x, y -> y.sort(0));
        dueHouse("copy into itself", "3 8 0 0 3 4", x, y -> y.copy(0, 0));
        dueHouse("join of none", "3 9 0 0 3 4", x, y -> y.join(0, 1));
        dueHouse("merge of none", "3 10 0 0 3 4", x, y -> y.merge(0, 1));
        dueHouse("clear of none", "3 11 0 0 3 4", x, y -> y.clear(2));
        dueHouse("turn of none", "3 12 0 0 3 4", x, y -> y.turn(2));
        dueHouse("fill of none", "3 13 0 0 3 4", x, y -> y.fill(2, 0, 0, 0, 1));
        dueHouse("put of the same key", "3 14 0 0 4 4", x, y -> y.put(0, 0, 1));
        dueHouse("exchange", "3 15 0 0 4 3", x, y -> y.exchange(0, 0));
        dueHouse("a call that throws", "3 15 0 0 4 3", x, y -> y.exchange(0, 2));
        dueHouse("drop", "2 16 0 0 4 4", x, y -> y.drop(0, 0));
        dueHouse("add", "3 17 0 0 4 4", x, y -> y.add(3, 0));
        dueHouse("fill of more", "154 18 0 0 4 4", x, y -> y.fill(3, 152, 0, 0, 1));
        dueHouse("a refused call", "154 18 1 0 4 4", x, y -> y.copy(3, 0));
        dueHouse("a knock", "154 18 1 1 4 4", x, y -> y.knock());
        dueHouse("a call that throws ahead of REFUSED", "154 18 1 1 4 4", x, y -> y.copy(3, 4));
    }

    private static void itemsAndSortedRows() {
        Runweaver x = new Runweaver();
        int items = 0;
        for (int row = 0; row < 4; row++) {
            x.fill(row, Checks.ROOM[row], 2, 0, 1);
            items += Checks.ROOM[row];
            Checks.due("items", x.house(0), items);
            Checks.due("sorted rows", x.house(5), 3 - row);
        }
        for (int row = 0; row < 4; row++) {
            x.sort(row);
            Checks.due("sorted rows", x.house(5), row + 1);
        }
    }

    private static void knockIsNoAct() {
        Runweaver x = new Runweaver();
        String ahead = Checks.keys(x, 0) + x.mark(0, true);
        Checks.due("the first knock", x.knock(), 1);
        Checks.due("the second knock", x.knock(), 2);
        Checks.due("house", Checks.house(x), "0 0 0 2 0 4");
        Checks.due("what else", Checks.keys(x, 0) + x.mark(0, true), ahead);
        Runweaver busy = Checks.busy();
        Checks.due("the third knock", busy.knock(), 3);
        Checks.due("house", Checks.house(busy), "12 12 1 3 5 1");
    }

    private static Supplier<Runweaver> sortedRows(int many, int others, boolean isTurned) {
        return () -> {
            Runweaver x = new Runweaver();
            x.fill(0, many, 3, 0, 5);
            x.fill(1, others, 3, 0, 7);
            if (isTurned) {
                // alike keys stand with the later stamp first then
                x.turn(0);
                x.turn(1);
            }
            x.sort(0);
            x.sort(1);
            return x;
        };
    }

    private static void soundAtTheBounds() {
        due("isSound of none", true, Runweaver::new, x -> x.isSound());
        due("isSound of rows that aren't sorted", true, Checks::busy, x -> x.isSound());
        for (boolean isTurned : new boolean[] {false, true}) {
            int[][] many = {{1, 0}, {0, 1}, {1, 1}, {149, 1}, {150, 0}, {0, 150}, {75, 75}, {75, 76}, {150, 1},
                {1, 150}, {150, 150}};
            for (int[] n : many) {
                due("isSound of " + n[0] + " and " + n[1], true, sortedRows(n[0], n[1], isTurned), x -> x.isSound());
            }
        }
        Supplier<Runweaver> sameThings = () -> {
            Runweaver x = sortedRows(75, 75, true).get();
            x.copy(0, 1);
            return x;
        };
        due("isSound of the same things in both", true, sameThings, x -> x.isSound());
        for (int row = 0; row < 4; row++) {
            int r = row;
            due("isSound of a full row that falls", true, falling(r, Checks.ROOM[r]), x -> x.isSound());
            due("isSound of a full row of alike ones", true, alike(r, Checks.ROOM[r]), x -> x.isSound());
            due("isSound of the ends", true, row(r, 99999, -99999, 99999), x -> x.isSound());
        }
    }

    /** The digest as it is told from the answers of the other calls. */
    private static long digestOf(Runweaver x) {
        long d = 8007;
        for (int row = 0; row < 4; row++) {
            int[] told = {x.many(row), x.mark(row, false), x.mark(row, true), x.wrong(row, 0), x.ties(row),
                x.runs(row), x.longest(row), x.sum(row), x.unlike(row)};
            for (int number : told) {
                d = d * 31 + number;
            }
        }
        for (int what = 0; what <= 5; what++) {
            d = d * 31 + x.house(what);
        }
        return d * 31 + (x.isSound() ? 1 : 0);
    }

    private static void digestWrapsAround() {
        Checks.due("digest of a new one", new Runweaver().digest(), digestOf(new Runweaver()));
        Checks.due("digest of a new one, by itself", new Runweaver().digest(), digestOfNew());
        Runweaver busy = Checks.busy();
        long digest = digestOf(busy);
        due("digest of a busy one", digest, Checks::busy, x -> x.digest());
        for (int row = 0; row < 4; row++) {
            int r = row;
            for (int key : new int[] {-99999, 99999}) {
                long want = digestOf(fullOf(r, key));
                due("digest of a full row of " + key, want, () -> fullOf(r, key), x -> x.digest());
            }
            long fell = digestOf(falling(r, Checks.ROOM[r]).get());
            due("digest of a full row that falls", fell, falling(r, Checks.ROOM[r]), x -> x.digest());
        }
        Runweaver refused = alike(3, 320).get();
        long ahead = refused.digest();
        refused.add(3, 5);
        Checks.due("digest after a refusal", refused.digest(), ahead + 923521);
        refused.knock();
        Checks.due("digest after a knock", refused.digest(), ahead + 923521 + 29791);
    }

    /** With numbers as long as they become, and brought back to 64 bits at the end. */
    private static long digestOfNew() {
        java.math.BigInteger d = java.math.BigInteger.valueOf(8007);
        int[] ofRow = {0, 17, 17, 0, 0, 0, 0, 0, 0};
        int[] ofAll = {0, 0, 0, 0, 0, 4, 1};
        for (int k = 0; k < 43; k++) {
            int number = k < 36 ? ofRow[k % 9] : ofAll[k - 36];
            d = d.multiply(java.math.BigInteger.valueOf(31)).add(java.math.BigInteger.valueOf(number));
        }
        return d.longValue();
    }

    public static void main(String[] args) {
        Checks.test("promise 16: how many ITEMS it has", AskBoundTests::manyOfNoneAndOfAll);
        Checks.test("promise 17: the KEY there (it may be -9)", AskBoundTests::keyAtBothEnds);
        Checks.test("promise 18: the STAMP there", AskBoundTests::stampAtBothEnds);
        Checks.test("promise 19: RANK, from 0 to one less than the ITEMS", AskBoundTests::rankGoesFromNoneToLess);
        Checks.test("promise 20: the KEY that would stand there", AskBoundTests::wouldAtBothEnds);
        Checks.test("promise 21: the STAMP that would stand there", AskBoundTests::wouldStampAtBothEnds);
        Checks.test("promise 22: in how many WRONG pairs that PLACE is", AskBoundTests::wrongAtBothEnds);
        Checks.test("promise 23: no such PLACE in it, or none behind it", AskBoundTests::afterNeedsOneBehind);
        Checks.test("promise 24: how many ITEMS of its RUN stand there and behind", AskBoundTests::runAtBothEnds);
        Checks.test("promise 25: from is not 0 to how many ITEMS it has", AskBoundTests::textFromPlaces);
        Checks.test("promise 25: as many as are meant and there; many is not 0 to 20", AskBoundTests::textOfSoMany);
        Checks.test("section 3: a ROW with one ITEM or none is both", AskBoundTests::noneOrOneIsBoth);
        Checks.test("promise 26: no KEY is greater than that at the next PLACE", AskBoundTests::sortedAtBothEnds);
        Checks.test("promise 27: each KEY is less than that ahead of it", AskBoundTests::fallingAtBothEnds);
        Checks.test("promise 28: of no two neighbours (in ROWS 2 and 3: always)", AskBoundTests::keptOfNeighbours);
        Checks.test("promise 29: 0 by merging, 1 by counting pairs", AskBoundTests::howIsNoneOrOne);
        Checks.test("promise 29: WRONG", () -> pairsOfNoneAndOfAll(Pairs.WRONG));
        Checks.test("promise 30: pairs that have the lesser KEY first", () -> pairsOfNoneAndOfAll(Pairs.RIGHT));
        Checks.test("promise 31: pairs that have the same KEY", () -> pairsOfNoneAndOfAll(Pairs.TIED));
        Checks.test("promise 32: how many RUNS (without ITEMS it has none)", () -> runsOfNoneAndOfAll(false));
        Checks.test("promise 33: its longest RUN; 0 without", () -> runsOfNoneAndOfAll(true));
        Checks.test("promise 34: how many ITEMS have it", AskBoundTests::countOfNoneAndOfAll);
        Checks.test("promise 35: how many ITEMS have a lesser one", AskBoundTests::belowNoneAndBelowAll);
        Checks.test("promise 36: the first PLACE (or the last one); NONE without", AskBoundTests::firstAtBothEnds);
        Checks.test("promise 37: NOTHING without ITEMS", AskBoundTests::endsOfNoneAndOfBounds);
        Checks.test("promise 38: each counted once", AskBoundTests::unlikeOfNoneAndOfAll);
        Checks.test("promise 39: of several the least; NOTHING without ITEMS", AskBoundTests::mostOfSeveral);
        Checks.test("promise 40: all its KEYS together", AskBoundTests::sumOfNoneAndOfBounds);
        Checks.test("promise 41: as many ITEMS, and at each PLACE the same KEY", () -> alikeOfTwo(false));
        Checks.test("promise 41: a ROW, or the same", () -> alikeOfItself(false));
        Checks.test("promise 41: as many ITEMS, of full ROWS", () -> alikeOfFullRows(false));
        Checks.test("promise 42: whether both have each KEY as often", () -> alikeOfTwo(true));
        Checks.test("promise 42: a ROW, or the same", () -> alikeOfItself(true));
        Checks.test("promise 42: each KEY as often, of full ROWS", () -> alikeOfFullRows(true));
        Checks.test("promise 43: an int that wraps around", AskBoundTests::markWrapsAround);
        Checks.test("promise 44: what is not 0 to 5", AskBoundTests::houseHasBounds);
        Checks.test("promise 44: also if nothing is other by them", AskBoundTests::actsThatAreCounted);
        Checks.test("promise 44: ITEMS of all ROWS; how many ROWS are SORTED", AskBoundTests::itemsAndSortedRows);
        Checks.test("promise 45: Knocks (this is no act)", AskBoundTests::knockIsNoAct);
        Checks.test("promise 46: SORTED, and have at most 150 ITEMS together", AskBoundTests::soundAtTheBounds);
        Checks.test("promise 47: wraps around as a 64-bit integer", AskBoundTests::digestWrapsAround);
        Checks.end();
    }
}
