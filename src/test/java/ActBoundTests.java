import java.util.function.Supplier;

/** The bounds that promises 1 and 3 to 15 name: a new object, and the acts (fill() has tests of its own). */
public final class ActBoundTests {
    private static Supplier<Runweaver> row(int row, int... keys) {
        return () -> Checks.with(row, keys);
    }

    private static Supplier<Runweaver> alike(int row, int many) {
        return () -> Checks.filled(row, many, 0, 5, 1);
    }

    /** Two rows with keys that are alike in all places. */
    private static Supplier<Runweaver> alike(int row, int many, int other, int others) {
        return () -> {
            Runweaver x = Checks.filled(row, many, 0, 5, 1);
            x.fill(other, others, 0, 5, 1);
            return x;
        };
    }

    private static void dueThen(String what, Runweaver x, int row, String keys) {
        Checks.due(what + ": keys then", Checks.keys(x, row), keys);
    }

    private static void newObject() {
        Runweaver x = new Runweaver();
        for (int row = 0; row < 4; row++) {
            Checks.dueRow(x, row, "", "");
        }
        Checks.due("house", Checks.house(x), "0 0 0 0 0 4");
        Checks.due("isSound", x.isSound(), true);
        Checks.busy();
        Checks.due("house of one made after a busy one", Checks.house(new Runweaver()), "0 0 0 0 0 4");
    }

    // ==== promise 3: add

    private static void addToNoneAndToAllButOne() {
        for (int row = 0; row < 4; row++) {
            int r = row;
            int most = Checks.ROOM[row];
            Runweaver one = Checks.dueDone("add to none", 1, Runweaver::new, x -> x.add(r, -9));
            Checks.dueRow(one, r, "-9", row < 2 ? "0" : "-1");
            Runweaver full = Checks.dueDone("add to all but one", most, alike(r, most - 1), x -> x.add(r, 4));
            Checks.due("the last key", full.key(r, most - 1), 4);
            Checks.due("the last stamp", full.stamp(r, most - 1), row < 2 ? most - 1 : Checks.NONE);
        }
    }

    private static void addToAFullRow() {
        for (int row = 0; row < 4; row++) {
            int r = row;
            Checks.dueRefused("add to full row " + row, alike(r, Checks.ROOM[r]), x -> x.add(r, 4));
            Runweaver x = alike(r, Checks.ROOM[r]).get();
            x.add(r, 4);
            int other = (row + 1) % 4;
            Checks.due("add to the next row then", x.add(other, 4), 1);
            x.drop(r, 0);
            Checks.due("add after drop", x.add(r, 4), Checks.ROOM[r]);
            Checks.due("refusals", x.house(2), 1);
        }
    }

    // ==== promise 4: put

    private static void putInAFullRow() {
        for (int row = 0; row < 4; row++) {
            int r = row;
            int last = Checks.ROOM[row] - 1;
            Runweaver x = Checks.dueDone("put at the last place of a full row", 5, alike(r, last + 1),
                    y -> y.put(r, last, 4));
            Checks.due("many then", x.many(r), last + 1);
            Checks.due("key then", x.key(r, last), 4);
            Checks.due("stamp then", x.stamp(r, last), row < 2 ? last + 1 : Checks.NONE);
            Checks.due("the key ahead then", x.key(r, last - 1), 5);
            Checks.dueDone("put at the first place of a full row", 5, alike(r, last + 1), y -> y.put(r, 0, 4));
        }
    }

    private static void putOfTheSameKey() {
        Runweaver x = Checks.dueDone("put of the same key", 6, row(1, 5, 6, 7), y -> y.put(1, 1, 6));
        Checks.dueRow(x, 1, "5 6 7", "0 3 2");
        Runweaver one = Checks.dueDone("put in a row of one", 5, row(1, 5), y -> y.put(1, 0, -9));
        Checks.dueRow(one, 1, "-9", "1");
        Checks.due("put, if -9 was there", one.put(1, 0, 5), -9);
        Checks.due("refusals", one.house(2), 0);
    }

    // ==== promises 5 and 6: drop and clear

    private static void dropAtBothEnds() {
        Runweaver first = Checks.dueDone("drop of the first one", 5, row(0, 5, 6, 7), x -> x.drop(0, 0));
        Checks.dueRow(first, 0, "6 7", "1 2");
        Runweaver last = Checks.dueDone("drop of the last one", 7, row(0, 5, 6, 7), x -> x.drop(0, 2));
        Checks.dueRow(last, 0, "5 6", "0 1");
        Runweaver only = Checks.dueDone("drop of the only one", -9, row(0, -9), x -> x.drop(0, 0));
        Checks.dueRow(only, 0, "", "");
        Checks.dueThrow("drop after the only one", Checks.RANGE, () -> dropped(), x -> x.drop(0, 0));
        for (int row = 0; row < 4; row++) {
            int r = row;
            int most = Checks.ROOM[row];
            Runweaver full = Checks.dueDone("drop of a full row", 0, () -> Checks.filled(r, most, 1, 0, 1),
                    x -> x.drop(r, 0));
            Checks.due("many then", full.many(r), most - 1);
            Checks.due("the first key then", full.key(r, 0), 1);
            Checks.due("the last key then", full.key(r, most - 2), most - 1);
        }
    }

    private static Runweaver dropped() {
        Runweaver x = Checks.with(0, -9);
        x.drop(0, 0);
        return x;
    }

    private static void clearOfNoneAndOfAll() {
        for (int row = 0; row < 4; row++) {
            int r = row;
            Checks.dueDone("clear of none", 0, Runweaver::new, x -> x.clear(r));
            Checks.dueDone("clear of one", 1, row(r, 5), x -> x.clear(r));
            Runweaver x = Checks.dueDone("clear of all", Checks.ROOM[r], alike(r, Checks.ROOM[r]), y -> y.clear(r));
            Checks.due("items then", x.house(0), 0);
            Checks.due("clear again", x.clear(r), 0);
            Checks.due("fill of all then", x.fill(r, Checks.ROOM[r], 0, 0, 1), 0);
        }
    }

    // ==== promises 7 and 8: exchange and swap

    private static void exchangeNeedsOneBehind() {
        Checks.dueThrow("exchange in a row of one", Checks.RANGE, row(0, 5), x -> x.exchange(0, 0));
        Checks.dueThrow("exchange of the last one", Checks.RANGE, row(0, 5, 6, 7), x -> x.exchange(0, 2));
        Runweaver two = Checks.dueDone("exchange in a row of two", 1, row(0, 5, 6), x -> x.exchange(0, 0));
        Checks.dueRow(two, 0, "6 5", "1 0");
        Runweaver last = Checks.dueDone("exchange of the last but one", 1, row(0, 5, 6, 7), x -> x.exchange(0, 1));
        Checks.dueRow(last, 0, "5 7 6", "0 2 1");
        for (int row = 0; row < 4; row++) {
            int r = row;
            int most = Checks.ROOM[row];
            Supplier<Runweaver> rising = () -> Checks.filled(r, most, 1, 0, 1);
            Runweaver x = Checks.dueDone("exchange at the end of a full row", 1, rising, y -> y.exchange(r, most - 2));
            Checks.due("its end", x.text(r, most - 3, 20), most - 3 + " " + (most - 1) + " " + (most - 2));
            Checks.dueThrow("exchange of the last of a full row", Checks.RANGE, rising, y -> y.exchange(r, most - 1));
        }
    }

    private static void exchangeTellsMinusOneToOne() {
        Checks.dueDone("exchange of neighbouring keys that rise", 1, row(2, 5, 6), x -> x.exchange(2, 0));
        Checks.dueDone("exchange of neighbouring keys that fall", -1, row(2, 6, 5), x -> x.exchange(2, 0));
        Checks.dueDone("exchange of the ends that rise", 1, row(2, -99999, 99999), x -> x.exchange(2, 0));
        Checks.dueDone("exchange of the ends that fall", -1, row(2, 99999, -99999), x -> x.exchange(2, 0));
        Runweaver x = Checks.dueDone("exchange of alike ones", 0, row(1, 5, 5), y -> y.exchange(1, 0));
        Checks.dueRow(x, 1, "5 5", "1 0");
    }

    private static void swapOfTheSamePlace() {
        Runweaver x = Checks.dueDone("swap of the same place", 0, row(0, 5, 6, 7), y -> y.swap(0, 1, 1));
        Checks.dueRow(x, 0, "5 6 7", "0 1 2");
        Checks.dueDone("swap in a row of one", 0, row(0, 5), y -> y.swap(0, 0, 0));
    }

    private static void swapOfBothEnds() {
        Runweaver x = Checks.dueDone("swap of both ends", 1, row(0, 5, 6, 7), y -> y.swap(0, 0, 2));
        Checks.dueRow(x, 0, "7 6 5", "2 1 0");
        Runweaver back = Checks.dueDone("swap of both ends, the last one first", 1, row(0, 5, 6, 7),
                y -> y.swap(0, 2, 0));
        Checks.dueRow(back, 0, "7 6 5", "2 1 0");
        Runweaver alike = Checks.dueDone("swap of alike keys", 0, row(0, 5, 6, 5), y -> y.swap(0, 0, 2));
        Checks.dueRow(alike, 0, "5 6 5", "2 1 0");
        Checks.dueDone("swap of keys that rise by 1", 1, row(3, 5, 6), y -> y.swap(3, 0, 1));
        Checks.dueDone("swap of keys that fall by 1", 1, row(3, 6, 5), y -> y.swap(3, 0, 1));
        for (int row = 0; row < 4; row++) {
            int r = row;
            int last = Checks.ROOM[row] - 1;
            Runweaver full = Checks.dueDone("swap of both ends of a full row", 1,
                    () -> Checks.filled(r, last + 1, 1, 0, 1), y -> y.swap(r, 0, last));
            Checks.due("its ends", full.key(r, 0) + " " + full.key(r, last), last + " 0");
        }
    }

    // ==== promises 9 to 11: turn, roll and keep

    private static void turnOfNoneAndOfOne() {
        for (int row = 0; row < 4; row++) {
            int r = row;
            Checks.dueDone("turn of none", 0, Runweaver::new, x -> x.turn(r));
            Checks.dueDone("turn of one", 0, row(r, 5), x -> x.turn(r));
            dueThen("turn of two", Checks.dueDone("turn of two", 2, row(r, 5, 6), x -> x.turn(r)), r, "6 5");
            Checks.dueDone("turn of three", 2, row(r, 5, 6, 7), x -> x.turn(r));
            int most = Checks.ROOM[row];
            Supplier<Runweaver> rising = () -> Checks.filled(r, most, 1, 0, 1);
            Runweaver full = Checks.dueDone("turn of a full row", most, rising, x -> x.turn(r));
            Checks.due("its ends", full.key(r, 0) + " " + full.key(r, most - 1), most - 1 + " 0");
            Checks.dueDone("turn of all but one", most - 2, () -> Checks.filled(r, most - 1, 1, 0, 1), x -> x.turn(r));
        }
    }

    private static void turnOfWhatReadsAlike() {
        Runweaver x = Checks.dueDone("turn of alike keys", 0, row(0, 5, 6, 5), y -> y.turn(0));
        Checks.dueRow(x, 0, "5 6 5", "2 1 0");
    }

    private static void rollByNoneAndByAll() {
        for (int row = 0; row < 4; row++) {
            int r = row;
            int most = Checks.ROOM[row];
            Checks.dueDone("roll of none", 0, Runweaver::new, x -> x.roll(r, 0));
            Checks.dueThrow("roll of none by 1", Checks.ARGUMENT, Runweaver::new, x -> x.roll(r, 1));
            dueThen("roll by 0", Checks.dueDone("roll by 0", 0, row(r, 5, 6, 7), x -> x.roll(r, 0)), r, "5 6 7");
            dueThen("roll by 1", Checks.dueDone("roll by 1", 3, row(r, 5, 6, 7), x -> x.roll(r, 1)), r, "6 7 5");
            dueThen("roll by 2", Checks.dueDone("roll by 2", 3, row(r, 5, 6, 7), x -> x.roll(r, 2)), r, "7 5 6");
            dueThen("roll by 3", Checks.dueDone("roll by 3", 0, row(r, 5, 6, 7), x -> x.roll(r, 3)), r, "5 6 7");
            for (int by : new int[] {-1, 4, Checks.LEAST, Checks.GREATEST}) {
                Checks.dueThrow("roll by " + by, Checks.ARGUMENT, row(r, 5, 6, 7), x -> x.roll(r, by));
            }
            Supplier<Runweaver> full = () -> Checks.filled(r, most, 1, 0, 1);
            Runweaver last = Checks.dueDone("roll of a full row by all but one", most, full, x -> x.roll(r, most - 1));
            Checks.due("its start", last.text(r, 0, 3), most - 1 + " 0 1");
            Checks.dueDone("roll of a full row by all", 0, full, x -> x.roll(r, most));
            Checks.dueThrow("roll of a full row by one more", Checks.ARGUMENT, full, x -> x.roll(r, most + 1));
        }
        Runweaver alike = Checks.dueDone("roll of alike keys", 0, row(0, 5, 5), x -> x.roll(0, 1));
        Checks.dueRow(alike, 0, "5 5", "1 0");
    }

    private static void keepBetweenNoneAndAll() {
        for (int row = 0; row < 4; row++) {
            int r = row;
            Supplier<Runweaver> three = row(r, 5, 6, 7);
            dueThen("keep 0 to 3", Checks.dueDone("keep 0 to 3", 3, three, x -> x.keep(r, 0, 3)), r, "5 6 7");
            dueThen("keep 1 to 3", Checks.dueDone("keep 1 to 3", 2, three, x -> x.keep(r, 1, 3)), r, "6 7");
            dueThen("keep 0 to 2", Checks.dueDone("keep 0 to 2", 2, three, x -> x.keep(r, 0, 2)), r, "5 6");
            dueThen("keep 2 to 3", Checks.dueDone("keep 2 to 3", 1, three, x -> x.keep(r, 2, 3)), r, "7");
            for (int at = 0; at <= 3; at++) {
                int from = at;
                dueThen("keep none", Checks.dueDone("keep none", 0, three, x -> x.keep(r, from, from)), r, "");
            }
            Checks.dueDone("keep without items", 0, Runweaver::new, x -> x.keep(r, 0, 0));
            int most = Checks.ROOM[row];
            Checks.dueDone("keep of a full row", most, alike(r, most), x -> x.keep(r, 0, most));
            Checks.dueDone("keep none of a full row", 0, alike(r, most), x -> x.keep(r, most, most));
            Checks.dueThrow("keep more than a full row", Checks.RANGE, alike(r, most), x -> x.keep(r, 0, most + 1));
        }
    }

    private static void keepOutside() {
        int[][] outside = {{-1, 0}, {-1, -1}, {-1, 3}, {0, 4}, {3, 4}, {4, 4}, {4, 3}, {1, 0}, {3, 2}, {3, 0}, {0, -1},
            {Checks.LEAST, 3}, {Checks.LEAST, Checks.LEAST}, {0, Checks.GREATEST}, {Checks.GREATEST, Checks.GREATEST},
            {Checks.GREATEST, 3}, {0, Checks.LEAST}};
        for (int row = 0; row < 4; row++) {
            int r = row;
            for (int[] n : outside) {
                Checks.dueThrow("keep " + n[0] + " to " + n[1], Checks.RANGE, row(r, 5, 6, 7),
                        x -> x.keep(r, n[0], n[1]));
            }
            Checks.dueThrow("keep 0 to 1 without items", Checks.RANGE, Runweaver::new, x -> x.keep(r, 0, 1));
            Checks.dueThrow("keep 1 to 1 without items", Checks.RANGE, Runweaver::new, x -> x.keep(r, 1, 1));
        }
    }

    // ==== promise 12: sort

    private static void sortOfNoneAndOfOne() {
        for (int row = 0; row < 4; row++) {
            int r = row;
            int most = Checks.ROOM[row];
            Checks.dueDone("sort of none", 0, Runweaver::new, x -> x.sort(r));
            Checks.dueDone("sort of one", 0, row(r, 5), x -> x.sort(r));
            Checks.dueDone("sort of two that rise", 0, row(r, 5, 6), x -> x.sort(r));
            dueThen("sort of two", Checks.dueDone("sort of two", 2, row(r, 6, 5), x -> x.sort(r)), r, "5 6");
            Runweaver alike = Checks.dueDone("sort of a full row of alike ones", 0, alike(r, most), x -> x.sort(r));
            Checks.due("its last stamp", alike.stamp(r, most - 1), row < 2 ? most - 1 : Checks.NONE);
            Runweaver falling = Checks.dueDone("sort of a full row that falls", most,
                    () -> Checks.filled(r, most, 2, 0, 1), x -> x.sort(r));
            Checks.due("its ends", falling.key(r, 0) + " " + falling.key(r, most - 1), 1 - most + " 0");
            Checks.due("isSorted then", falling.isSorted(r), true);
            Runweaver odd = Checks.dueDone("sort of all but one that fall", most - 2,
                    () -> Checks.filled(r, most - 1, 2, 0, 1), x -> x.sort(r));
            Checks.due("isSorted then", odd.isSorted(r), true);
            Checks.due("sort again", odd.sort(r), 0);
        }
    }

    private static void sortAsRanksTell() {
        Runweaver x = Checks.dueDone("sort of alike ones", 3, row(0, 5, 5, 4), y -> y.sort(0));
        Checks.dueRow(x, 0, "4 5 5", "2 0 1");
        Checks.dueDone("sort of alike ones, by keys alone", 2, row(2, 5, 5, 4), y -> y.sort(2));
        Runweaver ends = Checks.dueDone("sort of the greatest and least keys", 2, row(1, 99999, 0, -99999),
                y -> y.sort(1));
        Checks.dueRow(ends, 1, "-99999 0 99999", "2 1 0");
        Runweaver turned = Checks.with(0, 5, 5);
        turned.turn(0);
        Checks.due("sort of what is sorted", turned.sort(0), 0);
        Checks.dueRow(turned, 0, "5 5", "1 0");
        Runweaver greater = Checks.with(0, 4, 5, 5);
        greater.turn(0);
        // at place 1 the same key stands then, with a greater stamp
        Checks.due("sort, if a STAMP becomes greater", greater.sort(0), 3);
        Checks.dueRow(greater, 0, "4 5 5", "0 2 1");
    }

    // ==== promise 13: copy

    private static void copyOfTooMany() {
        for (int into = 0; into < 3; into++) {
            int i = into;
            for (int many : new int[] {151, 152, 320}) {
                Checks.dueRefused("copy of " + many, alike(3, many, i, 2), x -> x.copy(3, i));
                Checks.dueRefused("copy of " + many + " into none", alike(3, many), x -> x.copy(3, i));
            }
            Runweaver most = Checks.dueDone("copy of 150", 150, alike(3, 150, i, 2), x -> x.copy(3, i));
            Checks.due("many then", most.many(i), 150);
            Checks.due("many of row 3 then", most.many(3), 150);
            Runweaver full = Checks.dueDone("copy of 150 into a full row", 150, alike(3, 150, i, 150),
                    x -> x.copy(3, i));
            Checks.due("stamps given", full.house(4), into < 2 ? 300 : 0);
            Runweaver three = Checks.dueDone("copy of a full row into row 3", 150, alike(i, 150, 3, 320),
                    x -> x.copy(i, 3));
            Checks.due("many of row 3 then", three.many(3), 150);
        }
        Runweaver refused = alike(3, 151, 0, 2).get();
        Checks.due("copy of 151", refused.copy(3, 0), Checks.REFUSED);
        refused.drop(3, 0);
        Checks.due("copy of 150 then", refused.copy(3, 0), 150);
        Checks.due("its first stamp", refused.stamp(0, 0), 2);
    }

    private static void copyOfNone() {
        for (int into = 0; into < 4; into++) {
            int from = (into + 1) % 4;
            int i = into;
            Runweaver x = Checks.dueDone("copy of none into a full row", 0, alike(i, Checks.ROOM[i]),
                    y -> y.copy(from, i));
            Checks.due("items then", x.house(0), 0);
            Checks.dueDone("copy of none into none", 0, Runweaver::new, y -> y.copy(from, i));
        }
    }

    private static void copyIntoItself() {
        for (int row = 0; row < 4; row++) {
            int r = row;
            int most = Checks.ROOM[row];
            Checks.dueDone("copy of none into itself", 0, Runweaver::new, x -> x.copy(r, r));
            Runweaver x = Checks.dueDone("copy into itself", 3, row(r, 7, 5, 7), y -> y.copy(r, r));
            Checks.dueRow(x, r, "7 5 7", row < 2 ? "0 1 2" : "-1 -1 -1");
            Checks.due("stamps given", x.house(4), row < 2 ? 3 : 0);
            Runweaver full = alike(r, most).get();
            int mark = full.mark(r, true);
            Checks.due("copy of a full row into itself", full.copy(r, r), most);
            Checks.due("its stamps", full.mark(r, true), mark);
            Checks.due("house", Checks.house(full), most + " 2 0 0 " + (row < 2 ? most : 0) + " 4");
        }
    }

    // ==== promise 14: join

    private static void joinOfTooMany() {
        for (int row = 0; row < 4; row++) {
            int r = row;
            int o = (row + 1) % 4;
            int most = Checks.ROOM[row];
            Runweaver last = Checks.dueDone("join of the last one", most, alike(r, most - 1, o, 1), x -> x.join(r, o));
            Checks.due("many of the other one", last.many(o), 1);
            Checks.dueRefused("join of one more", alike(r, most, o, 1), x -> x.join(r, o));
            Checks.dueRefused("join of two for one", alike(r, most - 1, o, 2), x -> x.join(r, o));
            Checks.dueDone("join of none to a full row", most, alike(r, most), x -> x.join(r, o));
            Checks.dueDone("join of none to none", 0, Runweaver::new, x -> x.join(r, o));
            Checks.dueDone("join of a full row to none", 150, alike((r + 1) % 3, 150), x -> x.join(r, (r + 1) % 3));
        }
        for (int row = 0; row < 3; row++) {
            int r = row;
            Checks.dueRefused("join of 151 to none", alike(3, 151), x -> x.join(r, 3));
            Checks.dueDone("join of 150 to none", 150, alike(3, 150), x -> x.join(r, 3));
            Checks.dueRefused("join of 150 to one", alike(r, 1, 3, 150), x -> x.join(r, 3));
            Checks.dueDone("join of 149 to one", 150, alike(r, 1, 3, 149), x -> x.join(r, 3));
        }
    }

    private static void joinToItself() {
        for (int row = 0; row < 4; row++) {
            int r = row;
            int half = Checks.ROOM[row] / 2;
            Checks.dueDone("join of none to itself", 0, Runweaver::new, x -> x.join(r, r));
            Runweaver one = Checks.dueDone("join of one to itself", 2, row(r, 5), x -> x.join(r, r));
            Checks.dueRow(one, r, "5 5", row < 2 ? "0 0" : "-1 -1");
            Runweaver most = Checks.dueDone("join of half to itself", 2 * half,
                    () -> Checks.filled(r, half, 1, 0, 1), x -> x.join(r, r));
            Checks.due("its second start", most.text(r, half - 1, 3), half - 1 + " 0 1");
            Checks.due("the stamp there", most.stamp(r, half), row < 2 ? 0 : Checks.NONE);
            Checks.dueRefused("join of more than half to itself", alike(r, half + 1), x -> x.join(r, r));
            Checks.dueRefused("join of a full row to itself", alike(r, 2 * half), x -> x.join(r, r));
        }
    }

    // ==== promise 15: merge

    private static void mergeOfTooMany() {
        for (int row = 0; row < 4; row++) {
            int r = row;
            int o = (row + 1) % 4;
            int most = Checks.ROOM[row];
            Checks.dueDone("merge of the last one", most, alike(r, most - 1, o, 1), x -> x.merge(r, o));
            Checks.dueRefused("merge of one more", alike(r, most, o, 1), x -> x.merge(r, o));
            Checks.dueRefused("merge of two for one", alike(r, most - 1, o, 2), x -> x.merge(r, o));
            Checks.dueDone("merge of none to a full row", most, alike(r, most), x -> x.merge(r, o));
            Checks.dueDone("merge of none to none", 0, Runweaver::new, x -> x.merge(r, o));
            Checks.dueDone("merge of a full row to none", 150, alike((r + 1) % 3, 150), x -> x.merge(r, (r + 1) % 3));
        }
        for (int row = 0; row < 3; row++) {
            int r = row;
            Checks.dueRefused("merge of 151 to none", alike(3, 151), x -> x.merge(r, 3));
            Checks.dueDone("merge of 150 to none", 150, alike(3, 150), x -> x.merge(r, 3));
        }
    }

    private static void mergeNeedsSortedRows() {
        for (int row = 0; row < 4; row++) {
            int r = row;
            for (int other = 0; other < 4; other++) {
                int o = other;
                if (other != row) {
                    Checks.dueRefused("merge to a row that falls", two(r, o, 2, 1), x -> x.merge(r, o));
                    Checks.dueRefused("merge of a row that falls", two(r, o, 2, 1), x -> x.merge(o, r));
                    Checks.dueDone("merge of alike ones", 4, two(r, o, 1, 1), x -> x.merge(r, o));
                    Checks.dueDone("merge of none", 1, row(r, 5), x -> x.merge(r, o));
                    Checks.dueDone("merge to none", 1, row(r, 5), x -> x.merge(o, r));
                    Checks.dueRefused("merge of none to a row that falls", row(r, 2, 1), x -> x.merge(r, o));
                    Checks.dueRefused("merge to none of a row that falls", row(r, 2, 1), x -> x.merge(o, r));
                }
            }
            Checks.dueRefused("merge to itself of a row that falls", row(r, 2, 1), x -> x.merge(r, r));
            Checks.dueRefused("merge of a row that falls at its end", row(r, 1, 2, 3, 2), x -> x.merge(r, r));
        }
        Runweaver falling = Checks.busy();
        falling.fill(1, 3, 2, 0, 1);
        Checks.due("merge of two rows that fall", falling.merge(0, 1), Checks.REFUSED);
        falling.sort(0);
        Checks.due("merge, if one of them is sorted then", falling.merge(0, 1), Checks.REFUSED);
        falling.sort(1);
        Checks.due("merge, if both are sorted then", falling.merge(0, 1), 6);
    }

    /** A row with two keys, and another one with 1 and 1. */
    private static Supplier<Runweaver> two(int row, int other, int first, int second) {
        return () -> {
            Runweaver x = Checks.with(row, first, second);
            Checks.addAll(x, other, 1, 1);
            return x;
        };
    }

    private static void mergeToItself() {
        for (int row = 0; row < 4; row++) {
            int r = row;
            int half = Checks.ROOM[row] / 2;
            Checks.dueDone("merge of none to itself", 0, Runweaver::new, x -> x.merge(r, r));
            Runweaver two = Checks.dueDone("merge of two alike ones to itself", 4, row(r, 5, 5), x -> x.merge(r, r));
            Checks.dueRow(two, r, "5 5 5 5", row < 2 ? "0 1 0 1" : "-1 -1 -1 -1");
            Runweaver most = Checks.dueDone("merge of half to itself", 2 * half,
                    () -> Checks.filled(r, half, 1, 0, 1), x -> x.merge(r, r));
            Checks.due("its end", most.text(r, 2 * half - 3, 20), half - 2 + " " + (half - 1) + " " + (half - 1));
            Checks.due("stamps given", most.house(4), row < 2 ? half : 0);
            Checks.dueRefused("merge of more than half to itself", alike(r, half + 1), x -> x.merge(r, r));
        }
    }

    private static void mergeOfTheSameKeys() {
        Runweaver x = Checks.with(0, 5, 5);
        Checks.addAll(x, 1, 4, 5, 5, 6);
        Checks.due("merge", x.merge(0, 1), 6);
        Checks.dueRow(x, 0, "4 5 5 5 5 6", "2 0 1 3 4 5");
        Runweaver y = Checks.with(0, 5, 5);
        Checks.addAll(y, 1, 4, 5, 5, 6);
        Checks.due("merge the other way", y.merge(1, 0), 6);
        Checks.dueRow(y, 1, "4 5 5 5 5 6", "2 3 4 0 1 5");
        Runweaver ends = Checks.with(0, -99999, 99999);
        Checks.addAll(ends, 2, -99999, 99999);
        Checks.due("merge of the greatest and least keys", ends.merge(0, 2), 4);
        Checks.dueRow(ends, 0, "-99999 -99999 99999 99999", "0 2 1 3");
        Runweaver apart = Checks.filled(3, 160, 1, 0, 1);
        apart.fill(0, 150, 1, -999, 1);
        Checks.due("merge of what all goes ahead", apart.merge(3, 0), 310);
        Checks.due("its start", apart.text(3, 149, 2), "-850 0");
        Checks.due("merge of what all goes behind", apart.merge(0, 1), 150);
    }

    public static void main(String[] args) {
        Checks.test("promise 1: Creates four ROWS without ITEMS", ActBoundTests::newObject);
        Checks.test("promise 3: how many ITEMS there are then", ActBoundTests::addToNoneAndToAllButOne);
        Checks.test("promise 3: REFUSED, if there are as many as can be", ActBoundTests::addToAFullRow);
        Checks.test("promise 4: A new ITEM comes in the place of the one there", ActBoundTests::putInAFullRow);
        Checks.test("promise 4: the KEY of the one that was there (it may be -9)", ActBoundTests::putOfTheSameKey);
        Checks.test("promise 5: An ITEM goes; those behind it move up", ActBoundTests::dropAtBothEnds);
        Checks.test("promise 6: All ITEMS go", ActBoundTests::clearOfNoneAndOfAll);
        Checks.test("promise 7: no such PLACE in it, or none behind it", ActBoundTests::exchangeNeedsOneBehind);
        Checks.test("promise 7: -1, 0 or 1", ActBoundTests::exchangeTellsMinusOneToOne);
        Checks.test("promise 8: a PLACE, or the same", ActBoundTests::swapOfTheSamePlace);
        Checks.test("promise 8: 1 if their KEYS are unlike, otherwise 0", ActBoundTests::swapOfBothEnds);
        Checks.test("promise 9: what was last is first", ActBoundTests::turnOfNoneAndOfOne);
        Checks.test("promise 9: at how many PLACES another KEY stands then", ActBoundTests::turnOfWhatReadsAlike);
        Checks.test("promise 10: if by is not 0 to how many ITEMS the ROW has", ActBoundTests::rollByNoneAndByAll);
        Checks.test("promise 11: from one up to another one (without that)", ActBoundTests::keepBetweenNoneAndAll);
        Checks.test("promise 11: not 0 <= from <= to <= how many ITEMS it has", ActBoundTests::keepOutside);
        Checks.test("promise 12: A ROW is sorted (none, one, all)", ActBoundTests::sortOfNoneAndOfOne);
        Checks.test("promise 12: another KEY, or another STAMP", ActBoundTests::sortAsRanksTell);
        Checks.test("promise 13: REFUSED, if these are more than it can have", ActBoundTests::copyOfTooMany);
        Checks.test("promise 13: A ROW becomes as another one (that has none)", ActBoundTests::copyOfNone);
        Checks.test("promise 13: if it is the same one, nothing is other then", ActBoundTests::copyIntoItself);
        Checks.test("promise 14: REFUSED, if these were more than it can have", ActBoundTests::joinOfTooMany);
        Checks.test("promise 14: of the same one: it has them twice then", ActBoundTests::joinToItself);
        Checks.test("promise 15: REFUSED, if these were more than it can have", ActBoundTests::mergeOfTooMany);
        Checks.test("promise 15: REFUSED, if one of both is not SORTED", ActBoundTests::mergeNeedsSortedRows);
        Checks.test("promise 15: of the same one: it has them twice then", ActBoundTests::mergeToItself);
        Checks.test("promise 15: those of the ROW ahead of those of the other one", ActBoundTests::mergeOfTheSameKeys);
        Checks.end();
    }
}
