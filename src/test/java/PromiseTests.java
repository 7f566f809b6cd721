/** Each promise by itself: ordinary inputs, the edges that the document names, and wrong inputs. */
public final class PromiseTests {
    private static final int NONE = -1;
    private static final int NOTHING = -100000;
    private static final int REFUSED = -9;
    private static final int LEAST = Integer.MIN_VALUE;
    private static final int GREATEST = Integer.MAX_VALUE;
    private static final String RANGE = "IndexOutOfBoundsException";
    private static final String ARGUMENT = "IllegalArgumentException";

    private static int promise;
    private static int asked;
    private static int wrong;

    private interface Call {
        void run();
    }

    private static void due(String what, Object got, Object want) {
        asked++;
        if (!want.equals(got)) {
            wrong++;
            System.out.println("promise " + promise + ": " + what + " answered " + got + ", due is " + want);
        }
    }

    /** The call throws just that, and changes nothing. */
    private static void dueThrow(Runweaver x, String what, String want, Call call) {
        long ahead = x.digest();
        String got = "nothing";
        try {
            call.run();
        } catch (RuntimeException e) {
            got = e.getClass().getSimpleName();
        }
        due(what + " throws", got, want);
        due(what + " leaves digest", x.digest(), ahead);
    }

    private static Runweaver with(int row, int... keys) {
        Runweaver x = new Runweaver();
        addAll(x, row, keys);
        return x;
    }

    private static void addAll(Runweaver x, int row, int... keys) {
        for (int key : keys) {
            x.add(row, key);
        }
    }

    private static String keys(Runweaver x, int row) {
        StringBuilder told = new StringBuilder();
        for (int place = 0; place < x.many(row); place++) {
            told.append(place == 0 ? "" : " ").append(x.key(row, place));
        }
        return told.toString();
    }

    private static String stamps(Runweaver x, int row) {
        StringBuilder told = new StringBuilder();
        for (int place = 0; place < x.many(row); place++) {
            told.append(place == 0 ? "" : " ").append(x.stamp(row, place));
        }
        return told.toString();
    }

    private static void dueRow(Runweaver x, int row, String keys, String stamps) {
        due("keys of row " + row, keys(x, row), keys);
        due("stamps of row " + row, stamps(x, row), stamps);
    }

    private static String house(Runweaver x) {
        StringBuilder told = new StringBuilder();
        for (int what = 0; what <= 5; what++) {
            told.append(what == 0 ? "" : " ").append(x.house(what));
        }
        return told.toString();
    }

    private interface RowCall {
        void run(Runweaver x, int row);
    }

    /** There are no rows but 0 to 3. */
    private static void dueRowsOnly(String what, RowCall call) {
        for (int row : new int[] {-1, 4, LEAST, GREATEST}) {
            Runweaver x = with(0, 1);
            dueThrow(x, what + " of row " + row, RANGE, () -> call.run(x, row));
        }
        for (int row = 0; row < 4; row++) {
            Runweaver x = with(row, 5, 5);
            call.run(x, row);
        }
    }

    private interface PlaceCall {
        void run(Runweaver x, int row, int place);
    }

    /** Places go from 0 to one less than how many items there are; less the last one, if there must be a next one. */
    private static void duePlacesOnly(String what, boolean isWithNext, PlaceCall call) {
        for (int row = 0; row < 4; row++) {
            int r = row;
            for (int place : new int[] {-1, 3, 4, 149, 150, 319, 320, LEAST, GREATEST}) {
                Runweaver x = with(r, 3, 1, 2);
                dueThrow(x, what + " of row " + r + " at " + place, RANGE, () -> call.run(x, r, place));
            }
            Runweaver last = with(r, 3, 1, 2);
            if (isWithNext) {
                dueThrow(last, what + " at the last place", RANGE, () -> call.run(last, r, 2));
                call.run(last, r, 1);
            } else {
                call.run(last, r, 2);
            }
            Runweaver none = new Runweaver();
            dueThrow(none, what + " without items", RANGE, () -> call.run(none, r, 0));
        }
    }

    private interface KeyCall {
        void run(Runweaver x, int key);
    }

    private static void dueKeysOnly(String what, KeyCall call) {
        for (int key : new int[] {-100000, 100000, LEAST, GREATEST}) {
            Runweaver x = with(0, 1);
            dueThrow(x, what + " of key " + key, ARGUMENT, () -> call.run(x, key));
        }
        call.run(with(0, 1), -99999);
        call.run(with(0, 1), 99999);
    }

    private static void newObject() {
        promise = 1;
        Runweaver x = new Runweaver();
        for (int row = 0; row < 4; row++) {
            due("many of " + row, x.many(row), 0);
        }
        due("house", house(x), "0 0 0 0 0 4");
        Runweaver other = with(0, 1, 2);
        due("an object of its own", new Runweaver().digest(), x.digest());
        due("another one", other.many(0), 2);
    }

    private static void dueFill(int many, int pattern, int a, int b, String keys) {
        Runweaver x = new Runweaver();
        due("fill by " + pattern, x.fill(2, many, pattern, a, b), 0);
        due("pattern " + pattern + " with " + a + " and " + b, keys(x, 2), keys);
    }

    private static void fillPatterns() {
        promise = 2;
        dueFill(3, 0, -7, 4, "-7 -7 -7");
        dueFill(4, 1, -2, 3, "-2 1 4 7");
        dueFill(4, 2, -2, 3, "-2 -5 -8 -11");
        dueFill(7, 3, 5, 3, "5 6 7 5 6 7 5");
        dueFill(3, 3, 5, 1, "5 5 5");
        dueFill(10, 4, -3, 3, "-3 -2 -1 -1 -2 -3 -3 -2 -1 -1");
        dueFill(4, 4, 8, 1, "8 8 8 8");
        dueFill(5, 5, 1, 10, "1 11 21 11 1");
        dueFill(6, 5, -1, 2, "-1 1 3 3 1 -1");
        dueFill(7, 6, 0, 10, "0 10 1 9 2 8 3");
        dueFill(3, 6, -5, 1, "-5 -4 -4");
        // x: 1000 at first, then 21025, 7438 and 14271
        dueFill(3, 7, -999, 1, "33 270 447");
        // x: (99000 + 999 + 999) mod 65536 = 35462 at first, then 32919, 46652, 45061 and 37314
        dueFill(4, 7, 999, 99, "151 60 5 450");
        dueFill(0, 7, 0, 1, "");
        dueFill(0, 5, 0, 1, "");
        dueFill(1, 5, 9, 9, "9");
    }

    private static void fillStates() {
        promise = 2;
        Runweaver x = with(0, 7, 8);
        due("fill", x.fill(0, 3, 1, 0, 1), 2);
        dueRow(x, 0, "0 1 2", "2 3 4");
        due("fill of the next row of things", x.fill(1, 2, 0, 4, 1), 0);
        dueRow(x, 1, "4 4", "5 6");
        due("fill of keys", x.fill(2, 2, 0, 4, 1), 0);
        dueRow(x, 2, "4 4", "-1 -1");
        due("fill with none", x.fill(0, 0, 0, 0, 1), 3);
        due("house", house(x), "4 6 0 0 7 4");
        due("most of row 0", x.fill(0, 150, 1, -999, 99), 0);
        due("last key", x.key(0, 149), -999 + 149 * 99);
        due("most of row 1", x.fill(1, 150, 2, 999, 99), 2);
        due("most of row 2", x.fill(2, 150, 4, 0, 99), 2);
        due("most of row 3", x.fill(3, 320, 6, 999, 99), 0);
        due("last key of row 3", x.key(3, 319), 999 + 99 - 159);
        due("fill again", x.fill(3, 0, 0, 0, 1), 320);
    }

    private static void fillRefuses() {
        promise = 2;
        dueRowsOnly("fill", (x, row) -> x.fill(row, 1, 0, 0, 1));
        Runweaver x = with(0, 1, 2);
        for (int row = 0; row < 4; row++) {
            int r = row;
            int most = row == 3 ? 320 : 150;
            for (int many : new int[] {-1, most + 1, LEAST, GREATEST}) {
                dueThrow(x, "fill of row " + r + " with " + many, ARGUMENT, () -> x.fill(r, many, 0, 0, 1));
            }
        }
        for (int pattern : new int[] {-1, 8, LEAST, GREATEST}) {
            dueThrow(x, "fill by " + pattern, ARGUMENT, () -> x.fill(0, 1, pattern, 0, 1));
        }
        for (int a : new int[] {-1000, 1000, LEAST, GREATEST}) {
            dueThrow(x, "fill with a " + a, ARGUMENT, () -> x.fill(0, 1, 0, a, 1));
        }
        for (int b : new int[] {0, -1, 100, LEAST, GREATEST}) {
            dueThrow(x, "fill with b " + b, ARGUMENT, () -> x.fill(0, 1, 3, 0, b));
        }
        dueThrow(x, "fill with all wrong", RANGE, () -> x.fill(4, -1, 8, 1000, 0));
    }

    private static void add() {
        promise = 3;
        Runweaver x = new Runweaver();
        due("add", x.add(0, 5), 1);
        due("add", x.add(1, -9), 1);
        due("add", x.add(0, 5), 2);
        due("add", x.add(2, 99999), 1);
        due("add", x.add(3, -99999), 1);
        dueRow(x, 0, "5 5", "0 2");
        dueRow(x, 1, "-9", "1");
        dueRow(x, 2, "99999", "-1");
        dueRow(x, 3, "-99999", "-1");
        due("house", house(x), "5 5 0 0 3 4");
        for (int row = 0; row < 4; row++) {
            int most = row == 3 ? 320 : 150;
            Runweaver full = new Runweaver();
            full.fill(row, most - 1, 0, 0, 1);
            due("add of the last one", full.add(row, 1), most);
            due("add to a full row", full.add(row, 1), REFUSED);
            due("many", full.many(row), most);
            due("refusals", full.house(2), 1);
            due("acts", full.house(1), 2);
            due("stamps", full.house(4), row < 2 ? most : 0);
            int r = row;
            dueThrow(full, "add of a wrong key to a full row", ARGUMENT, () -> full.add(r, 100000));
        }
        dueRowsOnly("add", (y, row) -> y.add(row, 0));
        dueKeysOnly("add", (y, key) -> y.add(0, key));
        dueThrow(x, "add with both wrong", RANGE, () -> x.add(-1, 100000));
    }

    private static void put() {
        promise = 4;
        Runweaver x = with(0, 5, -9, 7);
        due("put", x.put(0, 1, 8), -9);
        dueRow(x, 0, "5 8 7", "0 3 2");
        due("put at first", x.put(0, 0, -99999), 5);
        due("put of the same key at last", x.put(0, 2, 7), 7);
        dueRow(x, 0, "-99999 8 7", "4 3 5");
        due("house", house(x), "3 6 0 0 6 3");
        Runweaver y = with(3, 1, 2);
        due("put", y.put(3, 1, 99999), 2);
        dueRow(y, 3, "1 99999", "-1 -1");
        due("stamps", y.house(4), 0);
        dueRowsOnly("put", (z, row) -> z.put(row, 0, 1));
        duePlacesOnly("put", false, (z, row, place) -> z.put(row, place, 1));
        dueKeysOnly("put", (z, key) -> z.put(0, 0, key));
        dueThrow(x, "put with place and key wrong", RANGE, () -> x.put(0, 3, 100000));
    }

    private static void drop() {
        promise = 5;
        Runweaver x = with(1, 5, -9, 7, 8);
        due("drop", x.drop(1, 1), -9);
        dueRow(x, 1, "5 7 8", "0 2 3");
        due("drop of the last one", x.drop(1, 2), 8);
        due("drop of the first one", x.drop(1, 0), 5);
        dueRow(x, 1, "7", "2");
        due("drop of the only one", x.drop(1, 0), 7);
        due("refusals", x.house(2), 0);
        x.add(1, 1);
        dueRow(x, 1, "1", "4");
        due("acts", x.house(1), 9);
        dueRowsOnly("drop", (z, row) -> z.drop(row, 0));
        duePlacesOnly("drop", false, (z, row, place) -> z.drop(row, place));
    }

    private static void clear() {
        promise = 6;
        Runweaver x = with(0, 5, 6, 7);
        x.add(1, 3);
        due("clear", x.clear(0), 3);
        due("many", x.many(0), 0);
        due("many of the other one", x.many(1), 1);
        due("clear without items", x.clear(0), 0);
        due("acts", x.house(1), 6);
        x.add(0, 1);
        dueRow(x, 0, "1", "4");
        x.fill(3, 320, 0, 0, 1);
        due("clear of a full row", x.clear(3), 320);
        dueRowsOnly("clear", (z, row) -> z.clear(row));
    }

    private static void exchange() {
        promise = 7;
        Runweaver x = with(0, 1, 2, 2, 4);
        due("exchange to wrong", x.exchange(0, 0), 1);
        dueRow(x, 0, "2 1 2 4", "1 0 2 3");
        due("wrong", x.wrong(0, 0), 1);
        due("exchange to right", x.exchange(0, 0), -1);
        due("exchange of alike ones", x.exchange(0, 1), 0);
        dueRow(x, 0, "1 2 2 4", "0 2 1 3");
        due("exchange of the last two", x.exchange(0, 2), 1);
        dueRow(x, 0, "1 2 4 2", "0 2 3 1");
        due("acts", x.house(1), 8);
        Runweaver y = with(2, 9, -9);
        due("exchange of keys", y.exchange(2, 0), -1);
        dueRow(y, 2, "-9 9", "-1 -1");
        dueRowsOnly("exchange", (z, row) -> z.exchange(row, 0));
        duePlacesOnly("exchange", true, (z, row, place) -> z.exchange(row, place));
    }

    private static void swap() {
        promise = 8;
        Runweaver x = with(0, 1, 2, 1, 4);
        due("swap", x.swap(0, 0, 3), 1);
        dueRow(x, 0, "4 2 1 1", "3 1 2 0");
        due("swap of alike ones", x.swap(0, 3, 2), 0);
        dueRow(x, 0, "4 2 1 1", "3 1 0 2");
        due("swap backward", x.swap(0, 2, 1), 1);
        dueRow(x, 0, "4 1 2 1", "3 0 1 2");
        due("swap of the same place", x.swap(0, 1, 1), 0);
        dueRow(x, 0, "4 1 2 1", "3 0 1 2");
        due("acts", x.house(1), 8);
        dueRowsOnly("swap", (z, row) -> z.swap(row, 0, 0));
        duePlacesOnly("swap", false, (z, row, place) -> z.swap(row, place, 0));
        duePlacesOnly("swap as other", false, (z, row, place) -> z.swap(row, 0, place));
    }

    private static void turn() {
        promise = 9;
        Runweaver x = with(0, 1, 2, 3, 1);
        due("turn", x.turn(0), 2);
        dueRow(x, 0, "1 3 2 1", "3 2 1 0");
        Runweaver y = with(2, 1, 2, 3);
        due("turn of an odd row", y.turn(2), 2);
        dueRow(y, 2, "3 2 1", "-1 -1 -1");
        Runweaver alike = with(1, 4, 4);
        due("turn of alike ones", alike.turn(1), 0);
        dueRow(alike, 1, "4 4", "1 0");
        Runweaver none = new Runweaver();
        due("turn without items", none.turn(3), 0);
        due("acts", none.house(1), 1);
        dueRowsOnly("turn", (z, row) -> z.turn(row));
    }

    private static void roll() {
        promise = 10;
        Runweaver x = with(0, 1, 2, 3, 3, 5);
        due("roll", x.roll(0, 2), 5);
        dueRow(x, 0, "3 3 5 1 2", "2 3 4 0 1");
        due("roll by one", x.roll(0, 1), 4);
        dueRow(x, 0, "3 5 1 2 3", "3 4 0 1 2");
        due("roll by none", x.roll(0, 0), 0);
        due("roll by all", x.roll(0, 5), 0);
        due("roll by all but one", x.roll(0, 4), 4);
        dueRow(x, 0, "3 3 5 1 2", "2 3 4 0 1");
        due("acts", x.house(1), 10);
        Runweaver none = new Runweaver();
        due("roll without items", none.roll(3, 0), 0);
        dueThrow(none, "roll without items by one", ARGUMENT, () -> none.roll(3, 1));
        for (int by : new int[] {-1, 6, LEAST, GREATEST}) {
            dueThrow(x, "roll by " + by, ARGUMENT, () -> x.roll(0, by));
        }
        dueThrow(x, "roll with both wrong", RANGE, () -> x.roll(4, -1));
        dueRowsOnly("roll", (z, row) -> z.roll(row, 1));
    }

    private static void keep() {
        promise = 11;
        Runweaver x = with(0, 5, 6, 7, 8, 9);
        due("keep of all", x.keep(0, 0, 5), 5);
        due("keep", x.keep(0, 1, 4), 3);
        dueRow(x, 0, "6 7 8", "1 2 3");
        due("keep of the last one", x.keep(0, 2, 3), 1);
        dueRow(x, 0, "8", "3");
        due("keep of none at the end", x.keep(0, 1, 1), 0);
        due("keep of none at all", x.keep(0, 0, 0), 0);
        due("house", house(x), "0 10 0 0 5 4");
        Runweaver y = with(3, 5, 6, 7);
        dueThrow(y, "keep from -1", RANGE, () -> y.keep(3, -1, 2));
        dueThrow(y, "keep backward", RANGE, () -> y.keep(3, 2, 1));
        dueThrow(y, "keep up to 4", RANGE, () -> y.keep(3, 0, 4));
        dueThrow(y, "keep from 4", RANGE, () -> y.keep(3, 4, 4));
        dueThrow(y, "keep up to the greatest", RANGE, () -> y.keep(3, 0, GREATEST));
        dueThrow(y, "keep from the least", RANGE, () -> y.keep(3, LEAST, 0));
        dueRowsOnly("keep", (z, row) -> z.keep(row, 0, 0));
    }

    private static void sort() {
        promise = 12;
        Runweaver x = with(0, 3, 1, 2, 1, 9);
        due("sort", x.sort(0), 3);
        dueRow(x, 0, "1 1 2 3 9", "1 3 2 0 4");
        due("sort of a sorted row", x.sort(0), 0);
        due("acts", x.house(1), 7);
        Runweaver late = with(1, 1, 1, 0);
        late.exchange(1, 0);
        due("sort keeps what is ahead", late.sort(1), 3);
        dueRow(late, 1, "0 1 1", "2 1 0");
        // at place 1 another stamp stands then, but the same key
        Runweaver stamped = with(0, 2, 2, 1);
        due("sort counts items with another stamp", stamped.sort(0), 3);
        Runweaver keyed = with(2, 2, 2, 1);
        due("sort counts keys alone", keyed.sort(2), 2);
        dueRow(keyed, 2, "1 2 2", "-1 -1 -1");
        Runweaver twice = with(0, 2, 1);
        twice.join(0, 0);
        due("sort of the same things twice", twice.sort(0), 2);
        dueRow(twice, 0, "1 1 2 2", "1 1 0 0");
        Runweaver none = new Runweaver();
        due("sort without items", none.sort(3), 0);
        none.fill(3, 320, 2, 0, 1);
        due("sort of a full row", none.sort(3), 320);
        due("its ends", none.text(3, 0, 2) + " " + none.key(3, 319), "-319 -318 0");
        dueRowsOnly("sort", (z, row) -> z.sort(row));
    }

    private static void copy() {
        promise = 13;
        Runweaver x = with(0, 4, 3);
        addAll(x, 1, 9);
        addAll(x, 2, 7, 7, 8);
        due("copy of things", x.copy(0, 1), 2);
        dueRow(x, 1, "4 3", "0 1");
        dueRow(x, 0, "4 3", "0 1");
        due("copy of things to keys", x.copy(0, 3), 2);
        dueRow(x, 3, "4 3", "-1 -1");
        due("copy of keys to things", x.copy(2, 0), 3);
        dueRow(x, 0, "7 7 8", "3 4 5");
        dueRow(x, 2, "7 7 8", "-1 -1 -1");
        due("copy of keys", x.copy(2, 3), 3);
        dueRow(x, 3, "7 7 8", "-1 -1 -1");
        due("copy to itself", x.copy(0, 0), 3);
        dueRow(x, 0, "7 7 8", "3 4 5");
        due("copy of keys to itself", x.copy(2, 2), 3);
        due("house", house(x), "11 12 0 0 6 3");
        Runweaver full = with(0, 1);
        full.fill(3, 151, 1, 0, 1);
        for (int into = 0; into < 3; into++) {
            due("copy of too many", full.copy(3, into), REFUSED);
        }
        due("copy to itself of many", full.copy(3, 3), 151);
        due("house", house(full), "152 3 3 0 1 4");
        full.drop(3, 150);
        due("copy of the most", full.copy(3, 0), 150);
        due("its last stamp", full.stamp(0, 149), 150);
        due("copy of none", full.copy(2, 0), 0);
        due("many", full.many(0), 0);
        dueRowsOnly("copy", (z, row) -> z.copy(row, 3));
        dueRowsOnly("copy into", (z, row) -> z.copy(3, row));
    }

    private static void join() {
        promise = 14;
        Runweaver x = with(0, 4, 3);
        addAll(x, 1, 9);
        addAll(x, 2, 7, 6);
        due("join of things", x.join(0, 1), 3);
        dueRow(x, 0, "4 3 9", "0 1 2");
        dueRow(x, 1, "9", "2");
        due("join of keys to things", x.join(1, 2), 3);
        dueRow(x, 1, "9 7 6", "2 3 4");
        dueRow(x, 2, "7 6", "-1 -1");
        due("join of things to keys", x.join(2, 0), 5);
        dueRow(x, 2, "7 6 4 3 9", "-1 -1 -1 -1 -1");
        due("join to itself", x.join(1, 1), 6);
        dueRow(x, 1, "9 7 6 9 7 6", "2 3 4 2 3 4");
        due("join of keys to itself", x.join(2, 2), 10);
        due("join of none", x.join(0, 3), 3);
        due("house", house(x), "19 11 0 0 5 1");
        Runweaver full = new Runweaver();
        full.fill(0, 76, 0, 0, 1);
        full.fill(1, 74, 0, 0, 1);
        full.fill(3, 160, 0, 0, 1);
        due("join of too many to itself", full.join(0, 0), REFUSED);
        due("join of too many", full.join(1, 3), REFUSED);
        due("join of the most", full.join(0, 1), 150);
        due("join of the most to itself", full.join(3, 3), 320);
        due("join of none to a full row", full.join(3, 2), 320);
        due("join of one too many", full.join(3, 1), REFUSED);
        due("house", house(full), "544 6 3 0 150 4");
        dueRowsOnly("join", (z, row) -> z.join(row, 3));
        dueRowsOnly("join as other", (z, row) -> z.join(3, row));
    }

    private static void merge() {
        promise = 15;
        Runweaver x = with(0, 1, 3, 3, 5);
        addAll(x, 1, 0, 3, 5, 6);
        due("merge of things", x.merge(0, 1), 8);
        dueRow(x, 0, "0 1 3 3 3 5 5 6", "4 0 1 2 5 3 6 7");
        dueRow(x, 1, "0 3 5 6", "4 5 6 7");
        addAll(x, 2, -9, 3, 3);
        due("merge of keys to things", x.merge(1, 2), 7);
        dueRow(x, 1, "-9 0 3 3 3 5 6", "8 4 5 9 10 6 7");
        dueRow(x, 2, "-9 3 3", "-1 -1 -1");
        due("merge of things to keys", x.merge(2, 1), 10);
        dueRow(x, 2, "-9 -9 0 3 3 3 3 3 5 6", "-1 -1 -1 -1 -1 -1 -1 -1 -1 -1");
        Runweaver twice = with(0, 1, 2, 2);
        due("merge to itself", twice.merge(0, 0), 6);
        dueRow(twice, 0, "1 1 2 2 2 2", "0 0 1 2 1 2");
        Runweaver none = with(1, 4, 6);
        due("merge to none", none.merge(3, 1), 2);
        due("merge of none", none.merge(1, 0), 2);
        due("merge of none to none", none.merge(0, 0), 0);
        dueRow(none, 3, "4 6", "-1 -1");
        due("house", house(none), "4 5 0 0 2 4");
        due("stamps of keys that were merged", stampsGivenByMergeOfKeys(), 4);
        mergeRefuses();
    }

    private static int stampsGivenByMergeOfKeys() {
        Runweaver x = with(3, 1, 1, 2, 2);
        x.merge(0, 3);
        dueRow(x, 0, "1 1 2 2", "0 1 2 3");
        return x.house(4);
    }

    private static void mergeRefuses() {
        Runweaver x = with(0, 2, 1);
        addAll(x, 1, 1, 2);
        due("merge to what is not sorted", x.merge(0, 1), REFUSED);
        due("merge of what is not sorted", x.merge(1, 0), REFUSED);
        due("merge to itself of what is not sorted", x.merge(0, 0), REFUSED);
        dueRow(x, 0, "2 1", "0 1");
        dueRow(x, 1, "1 2", "2 3");
        due("house", house(x), "4 4 3 0 4 3");
        Runweaver full = new Runweaver();
        full.fill(0, 76, 0, 0, 1);
        full.fill(1, 74, 0, 0, 1);
        full.fill(3, 161, 1, 0, 1);
        due("merge of too many to itself", full.merge(0, 0), REFUSED);
        due("merge of too many", full.merge(0, 3), REFUSED);
        due("merge of one too many to itself", full.merge(3, 3), REFUSED);
        due("merge of the most", full.merge(0, 1), 150);
        full.drop(3, 160);
        due("merge of the most to itself", full.merge(3, 3), 320);
        due("house", house(full), "544 6 3 0 150 4");
        dueRowsOnly("merge", (z, row) -> z.merge(row, 3));
        dueRowsOnly("merge as other", (z, row) -> z.merge(3, row));
    }

    private static void placesOfRows() {
        promise = 16;
        Runweaver x = with(0, 5, 6);
        addAll(x, 3, -9);
        due("many", x.many(0), 2);
        due("many", x.many(1), 0);
        due("many", x.many(3), 1);
        x.fill(3, 320, 0, 0, 1);
        due("many of a full row", x.many(3), 320);
        dueRowsOnly("many", (z, row) -> z.many(row));
        promise = 17;
        Runweaver y = with(0, 5, -9);
        due("key", y.key(0, 0), 5);
        due("key", y.key(0, 1), -9);
        dueRowsOnly("key", (z, row) -> z.key(row, 0));
        duePlacesOnly("key", false, (z, row, place) -> z.key(row, place));
        promise = 18;
        addAll(y, 1, 7);
        addAll(y, 2, 7);
        addAll(y, 3, 7);
        y.turn(0);
        due("stamp", y.stamp(0, 0), 1);
        due("stamp", y.stamp(0, 1), 0);
        due("stamp", y.stamp(1, 0), 2);
        due("stamp of a key alone", y.stamp(2, 0), NONE);
        due("stamp of a key alone", y.stamp(3, 0), NONE);
        dueRowsOnly("stamp", (z, row) -> z.stamp(row, 0));
        duePlacesOnly("stamp", false, (z, row, place) -> z.stamp(row, place));
    }

    private static void order() {
        Runweaver x = with(0, 3, -9, 3, 1, 3);
        promise = 19;
        due("rank", x.rank(0, 0), 2);
        due("rank of the least", x.rank(0, 1), 0);
        due("rank behind an alike one", x.rank(0, 2), 3);
        due("rank", x.rank(0, 3), 1);
        due("rank behind alike ones", x.rank(0, 4), 4);
        dueRowsOnly("rank", (z, row) -> z.rank(row, 0));
        duePlacesOnly("rank", false, (z, row, place) -> z.rank(row, place));
        promise = 20;
        int[] sorted = {-9, 1, 3, 3, 3};
        for (int place = 0; place < 5; place++) {
            due("would at " + place, x.would(0, place), sorted[place]);
        }
        dueRowsOnly("would", (z, row) -> z.would(row, 0));
        duePlacesOnly("would", false, (z, row, place) -> z.would(row, place));
        promise = 21;
        int[] stamps = {1, 3, 0, 2, 4};
        for (int place = 0; place < 5; place++) {
            due("wouldStamp at " + place, x.wouldStamp(0, place), stamps[place]);
        }
        due("wouldStamp of keys", with(3, 2, 1).wouldStamp(3, 1), NONE);
        dueRowsOnly("wouldStamp", (z, row) -> z.wouldStamp(row, 0));
        duePlacesOnly("wouldStamp", false, (z, row, place) -> z.wouldStamp(row, place));
        promise = 20;
        dueRow(x, 0, "3 -9 3 1 3", "0 1 2 3 4");
        due("acts", x.house(1), 5);
    }

    private static void pairsOfPlaces() {
        Runweaver x = with(0, 3, -9, 3, 1, 3);
        promise = 22;
        int[] wrongPairs = {2, 1, 1, 2, 0};
        for (int place = 0; place < 5; place++) {
            due("wrongAt " + place, x.wrongAt(0, place), wrongPairs[place]);
        }
        dueRowsOnly("wrongAt", (z, row) -> z.wrongAt(row, 0));
        duePlacesOnly("wrongAt", false, (z, row, place) -> z.wrongAt(row, place));
        promise = 23;
        int[] afterwards = {2, 4, 2, 4};
        for (int place = 0; place < 4; place++) {
            due("after " + place, x.after(0, place), afterwards[place]);
        }
        due("after of alike ones", with(2, 9, 1, 1).after(2, 1), 2);
        dueRow(x, 0, "3 -9 3 1 3", "0 1 2 3 4");
        dueRowsOnly("after", (z, row) -> z.after(row, 0));
        duePlacesOnly("after", true, (z, row, place) -> z.after(row, place));
        promise = 24;
        Runweaver y = with(3, 1, 1, 2, 0, 5, 4);
        int[] behind = {3, 2, 1, 2, 1, 1};
        for (int place = 0; place < 6; place++) {
            due("runAt " + place, y.runAt(3, place), behind[place]);
        }
        dueRowsOnly("runAt", (z, row) -> z.runAt(row, 0));
        duePlacesOnly("runAt", false, (z, row, place) -> z.runAt(row, place));
    }

    private static void text() {
        promise = 25;
        Runweaver x = with(0, 5, -9, 99999, -99999);
        due("text", x.text(0, 0, 20), "5 -9 99999 -99999");
        due("text", x.text(0, 1, 2), "-9 99999");
        due("text", x.text(0, 3, 1), "-99999");
        due("text of none", x.text(0, 1, 0), "");
        due("text from the end", x.text(0, 4, 20), "");
        due("text of a row without items", x.text(3, 0, 20), "");
        Runweaver full = new Runweaver();
        full.fill(3, 320, 1, 0, 1);
        due("text of the most", full.text(3, 0, 20), "0 1 2 3 4 5 6 7 8 9 10 11 12 13 14 15 16 17 18 19");
        due("text near the end", full.text(3, 317, 20), "317 318 319");
        due("text at the end", full.text(3, 320, 20), "");
        for (int from : new int[] {-1, 5, LEAST, GREATEST}) {
            dueThrow(x, "text from " + from, RANGE, () -> x.text(0, from, 1));
            dueThrow(x, "text with both wrong", RANGE, () -> x.text(0, from, 21));
        }
        for (int many : new int[] {-1, 21, LEAST, GREATEST}) {
            dueThrow(x, "text of " + many, ARGUMENT, () -> x.text(0, 4, many));
        }
        dueRowsOnly("text", (z, row) -> z.text(row, 0, 1));
    }

    private static void kindsOfRows() {
        promise = 26;
        due("isSorted", with(0, 1, 2, 2, 3).isSorted(0), true);
        due("isSorted at the start", with(0, 2, 1, 3).isSorted(0), false);
        due("isSorted at the end", with(2, 1, 3, 2).isSorted(2), false);
        due("isSorted of one", with(1, 4).isSorted(1), true);
        due("isSorted of none", new Runweaver().isSorted(3), true);
        dueRowsOnly("isSorted", (z, row) -> z.isSorted(row));
        promise = 27;
        due("isFalling", with(0, 3, 2, -9).isFalling(0), true);
        due("isFalling with alike ones", with(0, 3, 3).isFalling(0), false);
        due("isFalling at the end", with(2, 3, 2, 4).isFalling(2), false);
        due("isFalling at the start", with(2, 2, 3, 1).isFalling(2), false);
        due("isFalling of one", with(1, 4).isFalling(1), true);
        due("isFalling of none", new Runweaver().isFalling(3), true);
        dueRowsOnly("isFalling", (z, row) -> z.isFalling(row));
        promise = 28;
        Runweaver x = with(0, 1, 2, 2, 1);
        due("isKept", x.isKept(0), true);
        x.turn(0);
        due("isKept of what was turned", x.isKept(0), false);
        Runweaver apart = with(0, 1, 2, 1);
        apart.turn(0);
        due("isKept, if alike ones are no neighbours", apart.isKept(0), true);
        Runweaver early = with(0, 2, 2, 2);
        early.exchange(0, 0);
        due("isKept at the start", early.isKept(0), false);
        early.turn(0);
        early.keep(0, 0, 1);
        due("isKept of what stays", early.isKept(0), true);
        Runweaver twice = with(1, 1);
        twice.join(1, 1);
        due("isKept with the same thing twice", twice.isKept(1), true);
        due("isKept of keys", with(2, 1, 1).isKept(2), true);
        due("isKept of none", new Runweaver().isKept(0), true);
        dueRowsOnly("isKept", (z, row) -> z.isKept(row));
    }

    private static void pairs() {
        Runweaver x = with(0, 3, -9, 3, 1, 3);
        Runweaver falling = new Runweaver();
        falling.fill(3, 320, 2, 0, 1);
        promise = 29;
        due("wrong by merging", x.wrong(0, 0), 3);
        due("wrong by counting", x.wrong(0, 1), 3);
        due("wrong of a full row", falling.wrong(3, 0), 51040);
        due("wrong of a full row", falling.wrong(3, 1), 51040);
        due("wrong of none", x.wrong(2, 0) + x.wrong(2, 1), 0);
        for (int how : new int[] {-1, 2, LEAST, GREATEST}) {
            dueThrow(x, "wrong by " + how, ARGUMENT, () -> x.wrong(0, how));
        }
        dueThrow(x, "wrong with both wrong", RANGE, () -> x.wrong(4, 2));
        dueRowsOnly("wrong by merging", (z, row) -> z.wrong(row, 0));
        dueRowsOnly("wrong by counting", (z, row) -> z.wrong(row, 1));
        dueRow(x, 0, "3 -9 3 1 3", "0 1 2 3 4");
        promise = 30;
        due("right", x.right(0), 4);
        due("right of none", x.right(2), 0);
        due("right of a falling row", falling.right(3), 0);
        falling.turn(3);
        due("right of a rising row", falling.right(3), 51040);
        dueRowsOnly("right", (z, row) -> z.right(row));
        promise = 31;
        due("ties", x.ties(0), 3);
        due("ties of none", x.ties(2), 0);
        due("ties of two kinds", with(2, 1, 2, 1, 2, 1).ties(2), 4);
        falling.fill(3, 320, 0, 7, 1);
        due("ties of alike ones", falling.ties(3), 51040);
        dueRowsOnly("ties", (z, row) -> z.ties(row));
    }

    private static void runsOfRows() {
        Runweaver x = with(3, 1, 1, 2, 0, 5, 4, 4, 4, 6);
        promise = 32;
        due("runs", x.runs(3), 3);
        due("runs of none", x.runs(0), 0);
        due("runs of one", with(0, 5).runs(0), 1);
        due("runs of a falling row", with(1, 3, 2, 1).runs(1), 3);
        due("runs of alike ones", with(2, 3, 3, 3).runs(2), 1);
        dueRowsOnly("runs", (z, row) -> z.runs(row));
        promise = 33;
        due("longest at the end", x.longest(3), 4);
        due("longest at the start", with(0, 1, 2, 3, 0, 1).longest(0), 3);
        due("longest of none", x.longest(0), 0);
        due("longest of a falling row", with(1, 3, 2, 1).longest(1), 1);
        dueRowsOnly("longest", (z, row) -> z.longest(row));
    }

    private static void keysOfRows() {
        Runweaver x = with(0, 3, -9, 3, 1, 3);
        promise = 34;
        due("count", x.count(0, 3), 3);
        due("count", x.count(0, -9), 1);
        due("count of a key that is not there", x.count(0, 2), 0);
        due("count of none", x.count(1, 3), 0);
        dueRowsOnly("count", (z, row) -> z.count(row, 1));
        dueKeysOnly("count", (z, key) -> z.count(0, key));
        dueThrow(x, "count with both wrong", RANGE, () -> x.count(4, 100000));
        promise = 35;
        due("below", x.below(0, 3), 2);
        due("below the least", x.below(0, -9), 0);
        due("below a key that is not there", x.below(0, 99999), 5);
        due("below of none", x.below(1, 3), 0);
        dueRowsOnly("below", (z, row) -> z.below(row, 1));
        dueKeysOnly("below", (z, key) -> z.below(0, key));
        dueThrow(x, "below with both wrong", RANGE, () -> x.below(4, 100000));
        promise = 36;
        due("first", x.first(0, 3, false), 0);
        due("last", x.first(0, 3, true), 4);
        due("first of one", x.first(0, -9, false), 1);
        due("last of one", x.first(0, -9, true), 1);
        due("first of a key that is not there", x.first(0, 2, false), NONE);
        due("last of a key that is not there", x.first(0, 2, true), NONE);
        due("first of none", x.first(1, 0, false), NONE);
        due("last at the first place", with(2, 4, 5).first(2, 4, true), 0);
        dueRowsOnly("first", (z, row) -> z.first(row, 1, false));
        dueRowsOnly("last", (z, row) -> z.first(row, 1, true));
        dueKeysOnly("first", (z, key) -> z.first(0, key, false));
        dueKeysOnly("last", (z, key) -> z.first(0, key, true));
        dueThrow(x, "first with both wrong", RANGE, () -> x.first(4, 100000, false));
    }

    private static void endsOfRows() {
        promise = 37;
        Runweaver x = with(0, 3, -9, 7, 1);
        due("least", x.end(0, false), -9);
        due("greatest", x.end(0, true), 7);
        due("least at the last place", with(2, 8, 9, 7).end(2, false), 7);
        due("greatest at the last place", with(2, 8, 7, 9).end(2, true), 9);
        due("least of none", x.end(1, false), NOTHING);
        due("greatest of none", x.end(1, true), NOTHING);
        due("least at the edge", with(2, 99999).end(2, false), 99999);
        due("greatest at the edge", with(2, -99999).end(2, true), -99999);
        dueRowsOnly("end", (z, row) -> z.end(row, true));
        dueRowsOnly("end", (z, row) -> z.end(row, false));
        promise = 38;
        due("unlike", with(0, 3, -9, 3, 1, 3).unlike(0), 3);
        due("unlike of alike ones", with(3, 4, 4).unlike(3), 1);
        due("unlike of none", x.unlike(1), 0);
        dueRowsOnly("unlike", (z, row) -> z.unlike(row));
        promise = 39;
        due("most", with(0, 3, -9, 3, 1, 3).most(0), 3);
        due("most of several", with(2, 5, 4, 5, 4, 3).most(2), 4);
        due("most of several from the start on", with(2, 5, 4, 5, 4).most(2), 4);
        due("most of each once", with(1, 8, -9, 9).most(1), -9);
        due("most, the greatest one", with(3, 1, 2, 9, 9).most(3), 9);
        due("most of none", x.most(3), NOTHING);
        dueRowsOnly("most", (z, row) -> z.most(row));
        promise = 40;
        due("sum", x.sum(0), 2);
        due("sum of none", x.sum(1), 0);
        Runweaver full = new Runweaver();
        for (int more = 0; more < 320; more++) {
            full.add(3, -99999);
        }
        due("sum of the least", full.sum(3), -31999680);
        dueRowsOnly("sum", (z, row) -> z.sum(row));
    }

    /** What went is not counted any more. */
    private static void whatStays() {
        Runweaver x = with(0, 5, 4, 9, -9, 9, 9);
        x.keep(0, 0, 2);
        String[] called = {"24 runAt", "26 isSorted", "29 wrong", "30 right", "31 ties", "32 runs", "33 longest",
            "34 count", "35 below", "36 first", "37 least", "37 greatest", "38 unlike", "39 most", "40 sum"};
        int[] got = {x.runAt(0, 1), x.isSorted(0) ? 1 : 0, x.wrong(0, 1), x.right(0), x.ties(0), x.runs(0),
            x.longest(0), x.count(0, 9), x.below(0, 5), x.first(0, 9, true), x.end(0, false), x.end(0, true),
            x.unlike(0), x.most(0), x.sum(0)};
        int[] want = {1, 0, 1, 0, 0, 2, 1, 0, 1, NONE, 4, 5, 2, 4, 9};
        for (int k = 0; k < called.length; k++) {
            promise = Integer.parseInt(called[k].substring(0, 2));
            due(called[k].substring(3) + " of what stays", got[k], want[k]);
        }
    }

    private static void twoRows() {
        Runweaver x = with(0, 3, 1, 3);
        addAll(x, 1, 3, 1, 3);
        addAll(x, 2, 1, 3, 3);
        addAll(x, 3, 3, 1);
        promise = 41;
        due("same", x.same(0, 1), true);
        due("same with itself", x.same(2, 2), true);
        due("same in another sequence", x.same(0, 2), false);
        due("same of a longer one", x.same(0, 3), false);
        due("same of a shorter one", x.same(3, 0), false);
        due("same of none", new Runweaver().same(0, 3), true);
        due("same with none", with(0, 1).same(0, 3), false);
        dueRowsOnly("same", (z, row) -> z.same(row, 3));
        dueRowsOnly("same as other", (z, row) -> z.same(3, row));
        promise = 42;
        due("bag", x.bag(0, 2), true);
        due("bag with itself", x.bag(2, 2), true);
        due("bag of a shorter one", x.bag(0, 3), false);
        due("bag of a longer one", x.bag(3, 0), false);
        x.add(3, 1);
        due("bag with other times", x.bag(0, 3), false);
        due("bag of none", new Runweaver().bag(0, 3), true);
        dueRow(x, 0, "3 1 3", "0 1 2");
        dueRow(x, 2, "1 3 3", "-1 -1 -1");
        dueRowsOnly("bag", (z, row) -> z.bag(row, 3));
        dueRowsOnly("bag as other", (z, row) -> z.bag(3, row));
    }

    private static void mark() {
        promise = 43;
        Runweaver x = with(0, 3, -9);
        due("mark of none", x.mark(1, false), 17);
        due("mark of none", x.mark(1, true), 17);
        due("mark by keys", x.mark(0, false), (17 * 31 + 3) * 31 - 9);
        due("mark by stamps", x.mark(0, true), 17 * 31 * 31 + 1);
        due("mark by stamps of keys", with(2, 5, 6).mark(2, true), (17 * 31 - 1) * 31 - 1);
        // 17 * 31 to the 6th is 15087562577, which wraps around
        due("mark that wraps around", with(3, 0, 0, 0, 0, 0, 0).mark(3, false), (int) 15087562577L);
        dueRowsOnly("mark", (z, row) -> z.mark(row, false));
        dueRowsOnly("mark", (z, row) -> z.mark(row, true));
    }

    private static void house() {
        promise = 44;
        Runweaver x = with(0, 2, 1);
        x.add(3, 5);
        x.merge(0, 1);
        x.merge(1, 0);
        x.knock();
        x.copy(2, 2);
        due("house", house(x), "3 4 2 1 2 3");
        x.fill(2, 150, 2, 0, 1);
        x.add(2, 1);
        x.clear(0);
        due("house", house(x), "151 6 3 1 2 3");
        x.text(2, 0, 3);
        x.sum(2);
        due("house of what is asked", house(x), "151 6 3 1 2 3");
        for (int what : new int[] {-1, 6, LEAST, GREATEST}) {
            dueThrow(x, "house of " + what, ARGUMENT, () -> x.house(what));
        }
        Runweaver each = new Runweaver();
        eachAct(each);
        due("house of each act", each.house(1), 14);
        due("house of each act", each.house(2), 0);
    }

    private static void eachAct(Runweaver x) {
        x.fill(0, 3, 1, 0, 1);
        x.add(0, 3);
        x.put(0, 0, 0);
        x.drop(0, 3);
        x.clear(1);
        x.exchange(0, 0);
        x.swap(0, 1, 1);
        x.turn(0);
        x.roll(0, 1);
        x.keep(0, 0, 2);
        x.sort(0);
        x.copy(0, 0);
        x.join(0, 1);
        x.merge(0, 0);
    }

    private static void knock() {
        promise = 45;
        Runweaver x = new Runweaver();
        due("knock", x.knock(), 1);
        due("knock", x.knock(), 2);
        due("knocks", x.house(3), 2);
        due("acts", x.house(1), 0);
        due("knock of another object", new Runweaver().knock(), 1);
    }

    private static void isSound() {
        promise = 46;
        Runweaver x = new Runweaver();
        due("isSound of a new one", x.isSound(), true);
        addAll(x, 0, 1, 3, 3);
        addAll(x, 1, 1, 3, 4);
        addAll(x, 2, 3, 1, 2, 1);
        x.fill(3, 320, 7, 0, 1);
        due("isSound", x.isSound(), true);
        x.turn(0);
        due("isSound", x.isSound(), true);
        x.fill(0, 100, 3, 0, 9);
        x.fill(1, 50, 6, 0, 9);
        x.sort(0);
        x.sort(1);
        due("isSound of the most that is merged", x.isSound(), true);
        x.turn(0);
        x.sort(0);
        due("isSound, if stamps stand the other way", x.isSound(), true);
        x.add(0, 99999);
        due("isSound of more than can be merged", x.isSound(), true);
        x.copy(0, 1);
        due("isSound of the same things in both", x.isSound(), true);
        due("isSound leaves items", x.many(0) + x.many(1), 202);
        due("acts", x.house(1), 20);
    }

    private static void digest() {
        promise = 47;
        Runweaver x = new Runweaver();
        long d = 8007;
        for (int row = 0; row < 4; row++) {
            d = tell(d, 0, 17, 17, 0, 0, 0, 0, 0, 0);
        }
        due("digest of a new one", x.digest(), tell(d, 0, 0, 0, 0, 0, 4, 1));
        addAll(x, 1, 2, -9, 2);
        x.knock();
        d = tell(8007, 0, 17, 17, 0, 0, 0, 0, 0, 0);
        d = tell(d, 3, ((17 * 31 + 2) * 31 - 9) * 31 + 2, ((17 * 31) * 31 + 1) * 31 + 2, 1, 1, 2, 2, -5, 2);
        d = tell(d, 0, 17, 17, 0, 0, 0, 0, 0, 0);
        d = tell(d, 0, 17, 17, 0, 0, 0, 0, 0, 0);
        d = tell(d, 3, 3, 0, 1, 3, 3, 1);
        due("digest", x.digest(), d);
        due("digest again", x.digest(), d);
    }

    private static long tell(long d, int... numbers) {
        long told = d;
        for (int number : numbers) {
            told = told * 31 + number;
        }
        return told;
    }

    public static void main(String[] args) {
        newObject();
        fillPatterns();
        fillStates();
        fillRefuses();
        add();
        put();
        drop();
        clear();
        exchange();
        swap();
        turn();
        roll();
        keep();
        sort();
        copy();
        join();
        merge();
        placesOfRows();
        order();
        pairsOfPlaces();
        text();
        kindsOfRows();
        pairs();
        runsOfRows();
        keysOfRows();
        endsOfRows();
        whatStays();
        twoRows();
        mark();
        house();
        knock();
        isSound();
        digest();
        System.out.println(wrong == 0 ? asked + " answers are as due" : wrong + " answers are not as due");
        if (wrong != 0) {
            System.exit(1);
        }
    }
}
