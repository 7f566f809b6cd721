/** Long rows made of rising and falling runs: two of things that have a key and a stamp, two of keys alone. */
public final class Runweaver {
    private static final int NONE = -1;
    private static final int NOTHING = -100000;
    private static final int REFUSED = -9;

    private static final int ROWS = 4;
    private static final int SHORT_ROOM = 150;
    private static final int LONG_ROOM = 320;
    private static final int LEAST_KEY = -99999;
    private static final int GREATEST_KEY = 99999;
    private static final int MOST_TEXT = 20;

    private static final int LEAST_A = -999;
    private static final int GREATEST_A = 999;
    private static final int LEAST_B = 1;
    private static final int GREATEST_B = 99;

    private static final int ALIKE = 0;
    private static final int RISING = 1;
    private static final int FALLING = 2;
    private static final int SAW = 3;
    private static final int RUNS = 4;
    private static final int PIPES = 5;
    private static final int TWO = 6;
    private static final int DRAWN = 7;

    private final Row[] rows;
    private final Loom loom;
    private int stampsGiven;
    private int acts;
    private int refusals;
    private int knocks;

    public Runweaver() {
        rows = new Row[ROWS];
        rows[0] = new Row(SHORT_ROOM, true);
        rows[1] = new Row(SHORT_ROOM, true);
        rows[2] = new Row(SHORT_ROOM, false);
        rows[3] = new Row(LONG_ROOM, false);
        loom = new Loom(LONG_ROOM);
    }

    // ==== acts

    public int fill(int row, int many, int pattern, int a, int b)
            throws IndexOutOfBoundsException, IllegalArgumentException {
        Row it = rowOf(row);
        demand(many >= 0 && many <= it.room());
        demand(pattern >= ALIKE && pattern <= DRAWN);
        demand(a >= LEAST_A && a <= GREATEST_A);
        demand(b >= LEAST_B && b <= GREATEST_B);
        int had = it.size;
        it.empty();
        if (pattern == DRAWN) {
            appendDrawn(it, many, a, b);
        } else {
            appendPattern(it, many, pattern, a, b);
        }
        return done(had);
    }

    public int add(int row, int key) throws IndexOutOfBoundsException, IllegalArgumentException {
        Row it = rowOf(row);
        demandKey(key);
        if (it.free() < 1) {
            return refused();
        }
        it.append(key, stampOfNew(it));
        return done(it.size);
    }

    public int put(int row, int place, int key) throws IndexOutOfBoundsException, IllegalArgumentException {
        Row it = rowOf(row);
        demandPlace(it, place);
        demandKey(key);
        int had = it.keys[place];
        it.keys[place] = key;
        it.stamps[place] = stampOfNew(it);
        return done(had);
    }

    public int drop(int row, int place) throws IndexOutOfBoundsException {
        Row it = rowOf(row);
        demandPlace(it, place);
        int had = it.keys[place];
        Row rest = loom.woven;
        rest.empty();
        rest.appendSpan(it, 0, place);
        rest.appendSpan(it, place + 1, it.size);
        it.become(rest);
        return done(had);
    }

    public int clear(int row) throws IndexOutOfBoundsException {
        Row it = rowOf(row);
        int had = it.size;
        it.empty();
        return done(had);
    }

    public int exchange(int row, int place) throws IndexOutOfBoundsException {
        Row it = rowOf(row);
        demandPlaceWithNext(it, place);
        int more = it.wrongerByExchange(place);
        it.trade(place, place + 1);
        return done(more);
    }

    public int swap(int row, int place, int other) throws IndexOutOfBoundsException {
        Row it = rowOf(row);
        demandPlace(it, place);
        demandPlace(it, other);
        boolean areUnlike = it.keys[place] != it.keys[other];
        it.trade(place, other);
        return done(areUnlike ? 1 : 0);
    }

    public int turn(int row) throws IndexOutOfBoundsException {
        Row it = rowOf(row);
        Row turned = loom.woven;
        turned.empty();
        for (int place = it.size - 1; place >= 0; place--) {
            turned.append(it.keys[place], it.stamps[place]);
        }
        int moved = it.otherKeys(turned);
        it.become(turned);
        return done(moved);
    }

    public int roll(int row, int by) throws IndexOutOfBoundsException, IllegalArgumentException {
        Row it = rowOf(row);
        demand(by >= 0 && by <= it.size);
        Row rolled = loom.woven;
        rolled.empty();
        rolled.appendSpan(it, by, it.size);
        rolled.appendSpan(it, 0, by);
        int moved = it.otherKeys(rolled);
        it.become(rolled);
        return done(moved);
    }

    public int keep(int row, int from, int to) throws IndexOutOfBoundsException {
        Row it = rowOf(row);
        demandWithin(from >= 0 && from <= to && to <= it.size);
        Row kept = loom.woven;
        kept.empty();
        kept.appendSpan(it, from, to);
        it.become(kept);
        return done(it.size);
    }

    public int sort(int row) throws IndexOutOfBoundsException {
        Row it = rowOf(row);
        loom.sortUp(it, loom.sorted);
        int moved = it.otherItems(loom.sorted);
        it.become(loom.sorted);
        return done(moved);
    }

    public int copy(int row, int into) throws IndexOutOfBoundsException {
        Row from = rowOf(row);
        Row it = rowOf(into);
        if (from == it) {
            return done(it.size);
        }
        if (from.size > it.room()) {
            return refused();
        }
        it.empty();
        bring(from, it, it.isOfThings);
        return done(it.size);
    }

    public int join(int row, int other) throws IndexOutOfBoundsException {
        Row it = rowOf(row);
        Row from = rowOf(other);
        if (from.size > it.free()) {
            return refused();
        }
        bring(from, it, it.isOfThings);
        return done(it.size);
    }

    public int merge(int row, int other) throws IndexOutOfBoundsException {
        Row it = rowOf(row);
        Row from = rowOf(other);
        if (!it.isRising() || !from.isRising() || from.size > it.free()) {
            return refused();
        }
        loom.joined.become(it);
        bring(from, loom.joined, it.isOfThings);
        loom.weaveJoined(it.size);
        it.become(loom.woven);
        return done(it.size);
    }

    // ==== what is asked of places

    public int many(int row) throws IndexOutOfBoundsException {
        return rowOf(row).size;
    }

    public int key(int row, int place) throws IndexOutOfBoundsException {
        Row it = rowOf(row);
        demandPlace(it, place);
        return it.keys[place];
    }

    public int stamp(int row, int place) throws IndexOutOfBoundsException {
        Row it = rowOf(row);
        demandPlace(it, place);
        return it.stamps[place];
    }

    public int rank(int row, int place) throws IndexOutOfBoundsException {
        Row it = rowOf(row);
        demandPlace(it, place);
        return it.rankAt(place);
    }

    public int would(int row, int place) throws IndexOutOfBoundsException {
        Row it = rowOf(row);
        demandPlace(it, place);
        loom.sortUp(it, loom.sorted);
        return loom.sorted.keys[place];
    }

    public int wouldStamp(int row, int place) throws IndexOutOfBoundsException {
        Row it = rowOf(row);
        demandPlace(it, place);
        loom.sortUp(it, loom.sorted);
        return loom.sorted.stamps[place];
    }

    public int wrongAt(int row, int place) throws IndexOutOfBoundsException {
        Row it = rowOf(row);
        demandPlace(it, place);
        return it.wrongPairsWith(place);
    }

    public int after(int row, int place) throws IndexOutOfBoundsException {
        Row it = rowOf(row);
        demandPlaceWithNext(it, place);
        return loom.sortUp(it, loom.sorted) + it.wrongerByExchange(place);
    }

    public int runAt(int row, int place) throws IndexOutOfBoundsException {
        Row it = rowOf(row);
        demandPlace(it, place);
        return it.endOfRun(place) - place;
    }

    public String text(int row, int from, int many) throws IndexOutOfBoundsException, IllegalArgumentException {
        Row it = rowOf(row);
        demandWithin(from >= 0 && from <= it.size);
        demand(many >= 0 && many <= MOST_TEXT);
        int to = Math.min(from + many, it.size);
        StringBuilder told = new StringBuilder();
        for (int place = from; place < to; place++) {
            if (place > from) {
                told.append(' ');
            }
            told.append(it.keys[place]);
        }
        return told.toString();
    }

    // ==== what is asked of a row

    public boolean isSorted(int row) throws IndexOutOfBoundsException {
        return rowOf(row).isRising();
    }

    public boolean isFalling(int row) throws IndexOutOfBoundsException {
        return rowOf(row).fallsThroughout();
    }

    public boolean isKept(int row) throws IndexOutOfBoundsException {
        return rowOf(row).keepsStamps();
    }

    public int wrong(int row, int how) throws IndexOutOfBoundsException, IllegalArgumentException {
        Row it = rowOf(row);
        demand(how == 0 || how == 1);
        return how == 0 ? loom.sortUp(it, loom.sorted) : it.wrongPairs();
    }

    public int right(int row) throws IndexOutOfBoundsException {
        return rowOf(row).rightPairs();
    }

    public int ties(int row) throws IndexOutOfBoundsException {
        loom.sortUp(rowOf(row), loom.sorted);
        return loom.sorted.tiedPairsOfSorted();
    }

    public int runs(int row) throws IndexOutOfBoundsException {
        return rowOf(row).runsInAll();
    }

    public int longest(int row) throws IndexOutOfBoundsException {
        return rowOf(row).longestRun();
    }

    public int count(int row, int key) throws IndexOutOfBoundsException, IllegalArgumentException {
        Row it = rowOf(row);
        demandKey(key);
        return it.itemsWith(key);
    }

    public int below(int row, int key) throws IndexOutOfBoundsException, IllegalArgumentException {
        Row it = rowOf(row);
        demandKey(key);
        return it.itemsBelow(key);
    }

    public int first(int row, int key, boolean isLast) throws IndexOutOfBoundsException, IllegalArgumentException {
        Row it = rowOf(row);
        demandKey(key);
        return isLast ? it.lastPlaceOf(key) : it.firstPlaceOf(key);
    }

    public int end(int row, boolean isGreatest) throws IndexOutOfBoundsException {
        Row it = rowOf(row);
        return isGreatest ? it.greatestKey() : it.leastKey();
    }

    public int unlike(int row) throws IndexOutOfBoundsException {
        loom.sortUp(rowOf(row), loom.sorted);
        return loom.sorted.unlikeKeysOfSorted();
    }

    public int most(int row) throws IndexOutOfBoundsException {
        loom.sortUp(rowOf(row), loom.sorted);
        return loom.sorted.commonestKeyOfSorted();
    }

    public int sum(int row) throws IndexOutOfBoundsException {
        return rowOf(row).keysTogether();
    }

    public boolean same(int row, int other) throws IndexOutOfBoundsException {
        Row it = rowOf(row);
        Row second = rowOf(other);
        return it.size == second.size && it.otherKeys(second) == 0;
    }

    public boolean bag(int row, int other) throws IndexOutOfBoundsException {
        Row it = rowOf(row);
        Row second = rowOf(other);
        loom.sortUp(it, loom.sorted);
        loom.sortUp(second, loom.woven);
        return it.size == second.size && loom.sorted.otherKeys(loom.woven) == 0;
    }

    public int mark(int row, boolean isStamps) throws IndexOutOfBoundsException {
        Row it = rowOf(row);
        int e = 17;
        for (int place = 0; place < it.size; place++) {
            e = e * 31 + (isStamps ? it.stamps[place] : it.keys[place]);
        }
        return e;
    }

    // ==== the whole

    public int house(int what) throws IllegalArgumentException {
        switch (what) {
            case 0:
                return itemsInAll();
            case 1:
                return acts;
            case 2:
                return refusals;
            case 3:
                return knocks;
            case 4:
                return stampsGiven;
            case 5:
                return sortedRows();
            default:
                throw new IllegalArgumentException("no such number of the house");
        }
    }

    public int knock() {
        knocks++;
        return knocks;
    }

    public boolean isSound() {
        for (int row = 0; row < rows.length; row++) {
            if (!isRowSound(rows[row])) {
                return false;
            }
        }
        return isWeaveSound(rows[0], rows[1]);
    }

    public long digest() {
        long d = 8007;
        for (int row = 0; row < rows.length; row++) {
            d = d * 31 + many(row);
            d = d * 31 + mark(row, false);
            d = d * 31 + mark(row, true);
            d = d * 31 + wrong(row, 0);
            d = d * 31 + ties(row);
            d = d * 31 + runs(row);
            d = d * 31 + longest(row);
            d = d * 31 + sum(row);
            d = d * 31 + unlike(row);
        }
        for (int what = 0; what <= 5; what++) {
            d = d * 31 + house(what);
        }
        return d * 31 + (isSound() ? 1 : 0);
    }

    // ==== what is demanded of arguments

    private Row rowOf(int row) {
        if (row < 0 || row >= rows.length) {
            throw new IndexOutOfBoundsException("no such row");
        }
        return rows[row];
    }

    private static void demand(boolean holds) {
        if (!holds) {
            throw new IllegalArgumentException("an argument is out of its range");
        }
    }

    private static void demandKey(int key) {
        demand(key >= LEAST_KEY && key <= GREATEST_KEY);
    }

    private static void demandWithin(boolean holds) {
        if (!holds) {
            throw new IndexOutOfBoundsException("no such place");
        }
    }

    private static void demandPlace(Row it, int place) {
        demandWithin(place >= 0 && place < it.size);
    }

    private static void demandPlaceWithNext(Row it, int place) {
        // place + 1 < size would wrap around for the greatest int
        demandWithin(place >= 0 && place < it.size - 1);
    }

    // ==== how acts end

    private int done(int answer) {
        acts++;
        return answer;
    }

    private int refused() {
        refusals++;
        return REFUSED;
    }

    // ==== new items and items that come from elsewhere

    private int nextStamp() {
        int given = stampsGiven;
        stampsGiven++;
        return given;
    }

    private int stampOfNew(Row it) {
        return it.isOfThings ? nextStamp() : NONE;
    }

    private void appendPattern(Row it, int many, int pattern, int a, int b) {
        for (int place = 0; place < many; place++) {
            it.append(patternKey(pattern, place, many, a, b), stampOfNew(it));
        }
    }

    private void appendDrawn(Row it, int many, int a, int b) {
        int x = (1000 * b + a + 999) % 65536;
        for (int place = 0; place < many; place++) {
            x = (x * 25173 + 13849) % 65536;
            it.append(x % 512, stampOfNew(it));
        }
    }

    private static int patternKey(int pattern, int k, int many, int a, int b) {
        switch (pattern) {
            case RISING:
                return a + k * b;
            case FALLING:
                return a - k * b;
            case SAW:
                return a + k % b;
            case RUNS:
                return k / b % 2 == 0 ? a + k % b : a + b - 1 - k % b;
            case PIPES:
                return a + b * Math.min(k, many - 1 - k);
            case TWO:
                return k % 2 == 0 ? a + k / 2 : a + b - k / 2;
            default:
                return a;
        }
    }

    private void bring(Row from, Row into, boolean asThings) {
        // a row that is joined to itself grows meanwhile
        int end = from.size;
        for (int place = 0; place < end; place++) {
            into.append(from.keys[place], stampOfComer(from, place, asThings));
        }
    }

    private int stampOfComer(Row from, int place, boolean asThing) {
        if (!asThing) {
            return NONE;
        }
        return from.isOfThings ? from.stamps[place] : nextStamp();
    }

    // ==== the house and its soundness

    private int itemsInAll() {
        int items = 0;
        for (int row = 0; row < rows.length; row++) {
            items += rows[row].size;
        }
        return items;
    }

    private int sortedRows() {
        int sorted = 0;
        for (int row = 0; row < rows.length; row++) {
            if (rows[row].isRising()) {
                sorted++;
            }
        }
        return sorted;
    }

    private boolean isRowSound(Row it) {
        int wrong = loom.sortUp(it, loom.sorted);
        int pairs = it.size * (it.size - 1) / 2;
        return wrong == it.wrongPairs()
                && (wrong == 0) == it.isRising()
                && wrong + it.rightPairs() + loom.sorted.tiedPairsOfSorted() == pairs
                && it.standsByRanksIn(loom.sorted);
    }

    private boolean isWeaveSound(Row it, Row second) {
        if (!it.isRising() || !second.isRising() || second.size > it.free()) {
            return true;
        }
        loom.joined.become(it);
        loom.joined.appendSpan(second, 0, second.size);
        loom.weaveJoined(it.size);
        loom.sortUp(loom.joined, loom.sorted);
        return loom.woven.size == loom.sorted.size && loom.woven.otherItems(loom.sorted) == 0;
    }

    /** Items side by side; where they are keys alone, each stamp is NONE. */
    private static final class Row {
        final int[] keys;
        final int[] stamps;
        final boolean isOfThings;
        int size;

        Row(int room, boolean isOfThings) {
            keys = new int[room];
            stamps = new int[room];
            this.isOfThings = isOfThings;
        }

        int room() {
            return keys.length;
        }

        int free() {
            return keys.length - size;
        }

        void empty() {
            size = 0;
        }

        void append(int key, int stamp) {
            if (size < keys.length) {
                keys[size] = key;
                stamps[size] = stamp;
                size++;
            }
        }

        void appendSpan(Row from, int start, int end) {
            for (int place = start; place < end; place++) {
                append(from.keys[place], from.stamps[place]);
            }
        }

        void become(Row from) {
            int many = Math.min(from.size, keys.length);
            System.arraycopy(from.keys, 0, keys, 0, many);
            System.arraycopy(from.stamps, 0, stamps, 0, many);
            size = many;
        }

        void trade(int place, int other) {
            int key = keys[place];
            int stamp = stamps[place];
            keys[place] = keys[other];
            stamps[place] = stamps[other];
            keys[other] = key;
            stamps[other] = stamp;
        }

        /** By how much WRONG grows, if the item at a place and the next one change their places. */
        int wrongerByExchange(int place) {
            if (keys[place] == keys[place + 1]) {
                return 0;
            }
            return keys[place] < keys[place + 1] ? 1 : -1;
        }

        int otherKeys(Row second) {
            int end = Math.min(size, second.size);
            int others = 0;
            for (int place = 0; place < end; place++) {
                if (keys[place] != second.keys[place]) {
                    others++;
                }
            }
            return others;
        }

        int otherItems(Row second) {
            int end = Math.min(size, second.size);
            int others = 0;
            for (int place = 0; place < end; place++) {
                if (keys[place] != second.keys[place] || stamps[place] != second.stamps[place]) {
                    others++;
                }
            }
            return others;
        }

        boolean isRising() {
            for (int place = 1; place < size; place++) {
                if (keys[place - 1] > keys[place]) {
                    return false;
                }
            }
            return true;
        }

        boolean fallsThroughout() {
            for (int place = 1; place < size; place++) {
                if (keys[place - 1] <= keys[place]) {
                    return false;
                }
            }
            return true;
        }

        boolean keepsStamps() {
            for (int place = 1; place < size; place++) {
                if (keys[place - 1] == keys[place] && stamps[place - 1] > stamps[place]) {
                    return false;
                }
            }
            return true;
        }

        int rankAt(int place) {
            int key = keys[place];
            int rank = 0;
            for (int other = 0; other < size; other++) {
                if (keys[other] < key || (other < place && keys[other] == key)) {
                    rank++;
                }
            }
            return rank;
        }

        boolean standsByRanksIn(Row sorted) {
            for (int place = 0; place < size; place++) {
                int rank = rankAt(place);
                if (rank >= sorted.size || sorted.keys[rank] != keys[place] || sorted.stamps[rank] != stamps[place]) {
                    return false;
                }
            }
            return true;
        }

        int wrongPairsWith(int place) {
            int key = keys[place];
            int pairs = 0;
            for (int ahead = 0; ahead < place; ahead++) {
                if (keys[ahead] > key) {
                    pairs++;
                }
            }
            for (int behind = place + 1; behind < size; behind++) {
                if (keys[behind] < key) {
                    pairs++;
                }
            }
            return pairs;
        }

        int wrongPairs() {
            int pairs = 0;
            for (int place = 0; place < size; place++) {
                for (int behind = place + 1; behind < size; behind++) {
                    if (keys[place] > keys[behind]) {
                        pairs++;
                    }
                }
            }
            return pairs;
        }

        int rightPairs() {
            int pairs = 0;
            for (int place = 0; place < size; place++) {
                for (int behind = place + 1; behind < size; behind++) {
                    if (keys[place] < keys[behind]) {
                        pairs++;
                    }
                }
            }
            return pairs;
        }

        /** The place behind the last item of the run in which a place is. */
        int endOfRun(int place) {
            int end = place + 1;
            while (end < size && keys[end - 1] <= keys[end]) {
                end++;
            }
            return end;
        }

        int runsInAll() {
            int runs = 0;
            for (int place = 0; place < size; place++) {
                if (place == 0 || keys[place] < keys[place - 1]) {
                    runs++;
                }
            }
            return runs;
        }

        int longestRun() {
            int longest = 0;
            int run = 0;
            for (int place = 0; place < size; place++) {
                run = place > 0 && keys[place] < keys[place - 1] ? 1 : run + 1;
                longest = Math.max(longest, run);
            }
            return longest;
        }

        int itemsWith(int key) {
            int items = 0;
            for (int place = 0; place < size; place++) {
                if (keys[place] == key) {
                    items++;
                }
            }
            return items;
        }

        int itemsBelow(int key) {
            int items = 0;
            for (int place = 0; place < size; place++) {
                if (keys[place] < key) {
                    items++;
                }
            }
            return items;
        }

        int firstPlaceOf(int key) {
            for (int place = 0; place < size; place++) {
                if (keys[place] == key) {
                    return place;
                }
            }
            return NONE;
        }

        int lastPlaceOf(int key) {
            for (int place = size - 1; place >= 0; place--) {
                if (keys[place] == key) {
                    return place;
                }
            }
            return NONE;
        }

        int leastKey() {
            int least = NOTHING;
            for (int place = 0; place < size; place++) {
                if (place == 0 || keys[place] < least) {
                    least = keys[place];
                }
            }
            return least;
        }

        int greatestKey() {
            // NOTHING is less than each key
            int greatest = NOTHING;
            for (int place = 0; place < size; place++) {
                greatest = Math.max(greatest, keys[place]);
            }
            return greatest;
        }

        int keysTogether() {
            int sum = 0;
            for (int place = 0; place < size; place++) {
                sum += keys[place];
            }
            return sum;
        }

        int tiedPairsOfSorted() {
            int pairs = 0;
            int alikeAhead = 0;
            for (int place = 1; place < size; place++) {
                alikeAhead = keys[place] == keys[place - 1] ? alikeAhead + 1 : 0;
                pairs += alikeAhead;
            }
            return pairs;
        }

        int unlikeKeysOfSorted() {
            int unlike = 0;
            for (int place = 0; place < size; place++) {
                if (place == 0 || keys[place] != keys[place - 1]) {
                    unlike++;
                }
            }
            return unlike;
        }

        int commonestKeyOfSorted() {
            int commonest = NOTHING;
            int most = 0;
            int alike = 0;
            for (int place = 0; place < size; place++) {
                alike = place > 0 && keys[place] == keys[place - 1] ? alike + 1 : 1;
                if (alike > most) {
                    most = alike;
                    commonest = keys[place];
                }
            }
            return commonest;
        }
    }

    /** Rows to work in, made once, as what a run of calls makes is all kept in one room. */
    private static final class Loom {
        final Row sorted;
        final Row joined;
        final Row woven;
        final Row spare;

        Loom(int room) {
            sorted = new Row(room, true);
            joined = new Row(room, true);
            woven = new Row(room, true);
            spare = new Row(room, true);
        }

        /** Puts a row's items, sorted, into another row, and tells WRONG of the row. */
        int sortUp(Row row, Row into) {
            into.become(row);
            int wrong = 0;
            for (int width = 1; width < into.size; width = width * 2) {
                wrong += mergeNeighbours(into, width);
                into.become(spare);
            }
            return wrong;
        }

        /** Weaves the two sorted parts of the joined row into one; the second one begins at a place. */
        void weaveJoined(int second) {
            woven.empty();
            mergeSpans(joined, 0, second, joined.size, woven);
        }

        private int mergeNeighbours(Row row, int width) {
            int wrong = 0;
            spare.empty();
            for (int start = 0; start < row.size; start += 2 * width) {
                int middle = Math.min(start + width, row.size);
                int end = Math.min(start + 2 * width, row.size);
                wrong += mergeSpans(row, start, middle, end, spare);
            }
            return wrong;
        }

        private static int mergeSpans(Row row, int start, int middle, int end, Row into) {
            int wrong = 0;
            int left = start;
            int right = middle;
            while (left < middle && right < end) {
                if (row.keys[left] <= row.keys[right]) {
                    into.append(row.keys[left], row.stamps[left]);
                    left++;
                } else {
                    // it goes ahead of all that still stand in the left part, and each of these is greater
                    wrong += middle - left;
                    into.append(row.keys[right], row.stamps[right]);
                    right++;
                }
            }
            into.appendSpan(row, left, middle);
            into.appendSpan(row, right, end);
            return wrong;
        }
    }
}
