import java.util.ArrayList;
import java.util.Collections;
import java.util.Comparator;
import java.util.HashMap;
import java.util.HashSet;
import java.util.List;
import java.util.Map;

/** Long runs of drawn calls, each answered by the class and by a slow model that is made another way. */
public final class ModelTests {
    private static final int OBJECTS = 400;
    // as many as an object is used for
    private static final int CALLS = 512;
    private static final String RANGE = "throws.IndexOutOfBoundsException";
    private static final String ARGUMENT = "throws.IllegalArgumentException";

    private static final String[] CALLED = {
        "fill", "add", "put", "drop", "clear", "exchange", "swap", "turn", "roll", "keep", "sort", "copy", "join",
        "merge", "many", "key", "stamp", "rank", "would", "wouldStamp", "wrongAt", "after", "runAt", "text", "isSorted",
        "isFalling", "isKept", "wrong", "right", "ties", "runs", "longest", "count", "below", "first", "end", "unlike",
        "most", "sum", "same", "bag", "mark", "house", "knock", "isSound", "digest"};

    /** An item; the same thing may stand in several places. */
    private static final class Item {
        final int key;
        final int stamp;

        Item(int key, int stamp) {
            this.key = key;
            this.stamp = stamp;
        }
    }

    /** What the document says, in its plainest form. */
    private static final class Model {
        final List<List<Item>> rows = new ArrayList<>();
        int stamps;
        int acts;
        int refusals;
        int knocks;

        Model() {
            for (int row = 0; row < 4; row++) {
                rows.add(new ArrayList<>());
            }
        }

        static int room(int row) {
            return row == 3 ? 320 : 150;
        }

        Item made(int row, int key) {
            return new Item(key, row < 2 ? stamps++ : -1);
        }

        List<Item> comers(int from, int into) {
            List<Item> comers = new ArrayList<>();
            for (Item item : rows.get(from)) {
                comers.add(into < 2 && from < 2 ? item : made(into, item.key));
            }
            return comers;
        }

        static List<Item> inOrder(List<Item> row) {
            List<Item> sorted = new ArrayList<>(row);
            sorted.sort(Comparator.comparingInt((Item item) -> item.key));
            return sorted;
        }

        static List<Integer> keys(List<Item> row) {
            List<Integer> keys = new ArrayList<>();
            for (Item item : row) {
                keys.add(item.key);
            }
            return keys;
        }

        static List<Integer> stamps(List<Item> row) {
            List<Integer> stamps = new ArrayList<>();
            for (Item item : row) {
                stamps.add(item.stamp);
            }
            return stamps;
        }

        static boolean sorted(List<Item> row) {
            return keys(row).equals(keys(inOrder(row)));
        }

        /** How many pairs have a first key that is greater (1), the same (0) or less (-1). */
        static int pairs(List<Item> row, int sign) {
            int pairs = 0;
            for (int first = 0; first < row.size(); first++) {
                for (int second = first + 1; second < row.size(); second++) {
                    if (Integer.compare(row.get(first).key, row.get(second).key) == sign) {
                        pairs++;
                    }
                }
            }
            return pairs;
        }

        static List<Integer> runLengths(List<Item> row) {
            List<Integer> runs = new ArrayList<>();
            for (int place = 0; place < row.size(); place++) {
                if (place == 0 || row.get(place).key < row.get(place - 1).key) {
                    runs.add(0);
                }
                runs.set(runs.size() - 1, runs.get(runs.size() - 1) + 1);
            }
            return runs;
        }

        static int rank(List<Item> row, int place) {
            int rank = 0;
            for (int other = 0; other < row.size(); other++) {
                boolean isLess = row.get(other).key < row.get(place).key;
                boolean isAlikeAhead = row.get(other).key == row.get(place).key && other < place;
                rank += isLess || isAlikeAhead ? 1 : 0;
            }
            return rank;
        }

        static Item wouldBe(List<Item> row, int place) {
            for (int from = 0; from < row.size(); from++) {
                if (rank(row, from) == place) {
                    return row.get(from);
                }
            }
            throw new AssertionError("no item of rank " + place);
        }

        static int mark(List<Integer> numbers) {
            int e = 17;
            for (int number : numbers) {
                e = e * 31 + number;
            }
            return e;
        }

        static int most(List<Item> row) {
            Map<Integer, Integer> times = new HashMap<>();
            for (Item item : row) {
                times.merge(item.key, 1, Integer::sum);
            }
            int most = -100000;
            for (int key : times.keySet()) {
                boolean isOfter = most == -100000 || times.get(key) > times.get(most);
                boolean isAsOftenAndLess = most != -100000 && times.get(key).equals(times.get(most)) && key < most;
                most = isOfter || isAsOftenAndLess ? key : most;
            }
            return most;
        }

        static int patternKey(int pattern, int many, int k, int a, int b) {
            switch (pattern) {
                case 0:
                    return a;
                case 1:
                    return a + k * b;
                case 2:
                    return a - k * b;
                case 3:
                    return a + Math.floorMod(k, b);
                case 4:
                    return Math.floorDiv(k, b) % 2 == 0 ? a + k % b : a + b - 1 - k % b;
                case 5:
                    return a + b * (k < many - 1 - k ? k : many - 1 - k);
                case 6:
                    return (k & 1) == 0 ? a + k / 2 : a + b - k / 2;
                default:
                    long x = (1000L * b + a + 999) % 65536;
                    for (int place = 0; place <= k; place++) {
                        x = (x * 25173 + 13849) % 65536;
                    }
                    return (int) (x % 512);
            }
        }

        static int others(List<Integer> ahead, List<Integer> then) {
            int others = 0;
            for (int place = 0; place < ahead.size(); place++) {
                others += ahead.get(place).equals(then.get(place)) ? 0 : 1;
            }
            return others;
        }

        static int otherItems(List<Item> ahead, List<Item> then) {
            int others = 0;
            for (int place = 0; place < ahead.size(); place++) {
                Item old = ahead.get(place);
                Item now = then.get(place);
                others += old.key != now.key || old.stamp != now.stamp ? 1 : 0;
            }
            return others;
        }

        Object done(Object answer) {
            acts++;
            return answer;
        }

        Object refused() {
            refusals++;
            return -9;
        }

        static boolean isRow(int row) {
            return row >= 0 && row <= 3;
        }

        boolean isPlace(int row, int place) {
            return place >= 0 && place < rows.get(row).size();
        }

        static boolean isKey(int key) {
            return Math.abs((long) key) <= 99999;
        }

        /** Null, if the call throws nothing. */
        String thrown(String called, int[] n) {
            switch (called) {
                case "house":
                    return n[0] < 0 || n[0] > 5 ? ARGUMENT : null;
                case "knock": case "isSound": case "digest":
                    return null;
                default:
                    return isRow(n[0]) ? thrownOfRow(called, n) : RANGE;
            }
        }

        private String thrownOfRow(String called, int[] n) {
            int size = rows.get(n[0]).size();
            switch (called) {
                case "fill":
                    boolean isMeant = n[1] >= 0 && n[1] <= room(n[0]) && n[2] >= 0 && n[2] <= 7
                            && Math.abs((long) n[3]) <= 999 && n[4] >= 1 && n[4] <= 99;
                    return isMeant ? null : ARGUMENT;
                case "add": case "count": case "below": case "first":
                    return isKey(n[1]) ? null : ARGUMENT;
                case "put":
                    return !isPlace(n[0], n[1]) ? RANGE : isKey(n[2]) ? null : ARGUMENT;
                case "drop": case "key": case "stamp": case "rank": case "would": case "wouldStamp": case "wrongAt":
                case "runAt":
                    return isPlace(n[0], n[1]) ? null : RANGE;
                case "exchange": case "after":
                    return isPlace(n[0], n[1]) && n[1] != size - 1 ? null : RANGE;
                case "swap":
                    return isPlace(n[0], n[1]) && isPlace(n[0], n[2]) ? null : RANGE;
                case "roll":
                    return n[1] >= 0 && n[1] <= size ? null : ARGUMENT;
                case "keep":
                    return 0 <= n[1] && n[1] <= n[2] && n[2] <= size ? null : RANGE;
                case "copy": case "join": case "merge": case "same": case "bag":
                    return isRow(n[1]) ? null : RANGE;
                case "text":
                    return n[1] < 0 || n[1] > size ? RANGE : n[2] < 0 || n[2] > 20 ? ARGUMENT : null;
                case "wrong":
                    return n[1] == 0 || n[1] == 1 ? null : ARGUMENT;
                default:
                    return null;
            }
        }

        Object answer(String called, int[] n) {
            String thrown = thrown(called, n);
            if (thrown != null) {
                return thrown;
            }
            switch (called) {
                case "fill": case "add": case "put": case "drop": case "clear": case "exchange": case "swap":
                    return answerOfItems(called, n, rows.get(n[0]));
                case "turn": case "roll": case "keep": case "sort": case "copy": case "join": case "merge":
                    return answerOfWholeRows(called, n, rows.get(n[0]));
                case "house": case "knock": case "isSound": case "digest":
                    return answerOfAll(called, n);
                default:
                    Object ofPlace = answerOfPlace(called, n, rows.get(n[0]));
                    return ofPlace != null ? ofPlace : answerOfRow(called, n, rows.get(n[0]));
            }
        }

        private Object answerOfItems(String called, int[] n, List<Item> row) {
            switch (called) {
                case "fill":
                    int had = row.size();
                    row.clear();
                    for (int k = 0; k < n[1]; k++) {
                        row.add(made(n[0], patternKey(n[2], n[1], k, n[3], n[4])));
                    }
                    return done(had);
                case "add":
                    if (row.size() == room(n[0])) {
                        return refused();
                    }
                    row.add(made(n[0], n[1]));
                    return done(row.size());
                case "put":
                    return done(row.set(n[1], made(n[0], n[2])).key);
                case "drop":
                    return done(row.remove(n[1]).key);
                case "clear":
                    int were = row.size();
                    row.clear();
                    return done(were);
                case "exchange":
                    int ahead = pairs(row, 1);
                    Collections.swap(row, n[1], n[1] + 1);
                    return done(pairs(row, 1) - ahead);
                default:
                    Collections.swap(row, n[1], n[2]);
                    return done(row.get(n[1]).key == row.get(n[2]).key ? 0 : 1);
            }
        }

        private Object answerOfWholeRows(String called, int[] n, List<Item> row) {
            List<Item> ahead = new ArrayList<>(row);
            switch (called) {
                case "turn":
                    Collections.reverse(row);
                    return done(others(keys(ahead), keys(row)));
                case "roll":
                    Collections.rotate(row, -n[1]);
                    return done(others(keys(ahead), keys(row)));
                case "keep":
                    rows.set(n[0], new ArrayList<>(row.subList(n[1], n[2])));
                    return done(n[2] - n[1]);
                case "sort":
                    rows.set(n[0], inOrder(row));
                    return done(otherItems(ahead, rows.get(n[0])));
                case "copy":
                    if (row.size() > room(n[1])) {
                        return refused();
                    }
                    if (n[0] != n[1]) {
                        rows.set(n[1], comers(n[0], n[1]));
                    }
                    return done(row.size());
                case "join":
                    if (row.size() + rows.get(n[1]).size() > room(n[0])) {
                        return refused();
                    }
                    row.addAll(comers(n[1], n[0]));
                    return done(row.size());
                default:
                    boolean areSorted = sorted(row) && sorted(rows.get(n[1]));
                    if (!areSorted || row.size() + rows.get(n[1]).size() > room(n[0])) {
                        return refused();
                    }
                    row.addAll(comers(n[1], n[0]));
                    rows.set(n[0], inOrder(row));
                    return done(row.size());
            }
        }

        private Object answerOfPlace(String called, int[] n, List<Item> row) {
            switch (called) {
                case "many":
                    return row.size();
                case "key":
                    return row.get(n[1]).key;
                case "stamp":
                    return row.get(n[1]).stamp;
                case "rank":
                    return rank(row, n[1]);
                case "would":
                    return wouldBe(row, n[1]).key;
                case "wouldStamp":
                    return wouldBe(row, n[1]).stamp;
                case "wrongAt":
                    List<Item> without = new ArrayList<>(row);
                    without.remove(n[1]);
                    return pairs(row, 1) - pairs(without, 1);
                case "after":
                    List<Item> then = new ArrayList<>(row);
                    Collections.swap(then, n[1], n[1] + 1);
                    return pairs(then, 1);
                case "runAt":
                    return runLengths(row.subList(n[1], row.size())).get(0);
                case "text":
                    int end = Math.min(row.size(), n[1] + n[2]);
                    return keys(row.subList(n[1], end)).toString().replaceAll("[\\[\\],]", "");
                default:
                    return null;
            }
        }

        private Object answerOfRow(String called, int[] n, List<Item> row) {
            List<Integer> keys = keys(row);
            switch (called) {
                case "isSorted":
                    return sorted(row);
                case "isFalling":
                    return pairs(row, 1) == row.size() * (row.size() - 1) / 2;
                case "isKept":
                    return isKept(n[0], row);
                case "wrong":
                    return pairs(row, 1);
                case "right":
                    return pairs(row, -1);
                case "ties":
                    return pairs(row, 0);
                case "runs":
                    return runLengths(row).size();
                case "longest":
                    return row.isEmpty() ? 0 : Collections.max(runLengths(row));
                case "count":
                    return Collections.frequency(keys, n[1]);
                case "below":
                    return (int) keys.stream().filter(key -> key < n[1]).count();
                case "first":
                    return n[2] == 1 ? keys.lastIndexOf(n[1]) : keys.indexOf(n[1]);
                case "end":
                    return row.isEmpty() ? -100000 : n[1] == 1 ? Collections.max(keys) : Collections.min(keys);
                case "unlike":
                    return new HashSet<>(keys).size();
                case "most":
                    return most(row);
                case "sum":
                    return keys.stream().mapToInt(key -> key).sum();
                case "same":
                    return keys.equals(keys(rows.get(n[1])));
                case "bag":
                    return keys(inOrder(row)).equals(keys(inOrder(rows.get(n[1]))));
                case "mark":
                    return mark(n[1] == 1 ? stamps(row) : keys);
                default:
                    throw new AssertionError(called);
            }
        }

        private static boolean isKept(int number, List<Item> row) {
            for (int place = 0; number < 2 && place + 1 < row.size(); place++) {
                Item first = row.get(place);
                Item second = row.get(place + 1);
                if (first.key == second.key && first.stamp > second.stamp) {
                    return false;
                }
            }
            return true;
        }

        private Object answerOfAll(String called, int[] n) {
            switch (called) {
                case "house":
                    return house(n[0]);
                case "knock":
                    return ++knocks;
                case "isSound":
                    return true;
                default:
                    return digest();
            }
        }

        private int house(int what) {
            int items = 0;
            int sorted = 0;
            for (List<Item> row : rows) {
                items += row.size();
                sorted += sorted(row) ? 1 : 0;
            }
            return new int[] {items, acts, refusals, knocks, stamps, sorted}[what];
        }

        private long digest() {
            long d = 8007;
            for (List<Item> row : rows) {
                int longest = row.isEmpty() ? 0 : Collections.max(runLengths(row));
                int[] told = {row.size(), mark(keys(row)), mark(stamps(row)), pairs(row, 1), pairs(row, 0),
                    runLengths(row).size(), longest, keys(row).stream().mapToInt(key -> key).sum(),
                    new HashSet<>(keys(row)).size()};
                for (int number : told) {
                    d = d * 31 + number;
                }
            }
            for (int what = 0; what <= 5; what++) {
                d = d * 31 + house(what);
            }
            return d * 31 + 1;
        }
    }

    private static Object answer(Runweaver x, String called, int[] n) {
        try {
            switch (called) {
                case "fill": return x.fill(n[0], n[1], n[2], n[3], n[4]);
                case "add": return x.add(n[0], n[1]);
                case "put": return x.put(n[0], n[1], n[2]);
                case "drop": return x.drop(n[0], n[1]);
                case "clear": return x.clear(n[0]);
                case "exchange": return x.exchange(n[0], n[1]);
                case "swap": return x.swap(n[0], n[1], n[2]);
                case "turn": return x.turn(n[0]);
                case "roll": return x.roll(n[0], n[1]);
                case "keep": return x.keep(n[0], n[1], n[2]);
                case "sort": return x.sort(n[0]);
                case "copy": return x.copy(n[0], n[1]);
                case "join": return x.join(n[0], n[1]);
                case "merge": return x.merge(n[0], n[1]);
                case "many": return x.many(n[0]);
                case "key": return x.key(n[0], n[1]);
                case "stamp": return x.stamp(n[0], n[1]);
                case "rank": return x.rank(n[0], n[1]);
                case "would": return x.would(n[0], n[1]);
                case "wouldStamp": return x.wouldStamp(n[0], n[1]);
                case "wrongAt": return x.wrongAt(n[0], n[1]);
                case "after": return x.after(n[0], n[1]);
                case "runAt": return x.runAt(n[0], n[1]);
                case "text": return x.text(n[0], n[1], n[2]);
                default: return answerOfRow(x, called, n);
            }
        } catch (RuntimeException e) {
            return "throws." + e.getClass().getSimpleName();
        }
    }

    private static Object answerOfRow(Runweaver x, String called, int[] n) {
        switch (called) {
            case "isSorted": return x.isSorted(n[0]);
            case "isFalling": return x.isFalling(n[0]);
            case "isKept": return x.isKept(n[0]);
            case "wrong": return x.wrong(n[0], n[1]);
            case "right": return x.right(n[0]);
            case "ties": return x.ties(n[0]);
            case "runs": return x.runs(n[0]);
            case "longest": return x.longest(n[0]);
            case "count": return x.count(n[0], n[1]);
            case "below": return x.below(n[0], n[1]);
            case "first": return x.first(n[0], n[1], n[2] == 1);
            case "end": return x.end(n[0], n[1] == 1);
            case "unlike": return x.unlike(n[0]);
            case "most": return x.most(n[0]);
            case "sum": return x.sum(n[0]);
            case "same": return x.same(n[0], n[1]);
            case "bag": return x.bag(n[0], n[1]);
            case "mark": return x.mark(n[0], n[1] == 1);
            case "house": return x.house(n[0]);
            case "knock": return x.knock();
            case "isSound": return x.isSound();
            case "digest": return x.digest();
            default: throw new AssertionError(called);
        }
    }

    /** A row of numbers that is the same in each run of the tests. */
    private static long state = 20261119;

    private static int drawn(int bound) {
        state = state * 6364136223846793005L + 1442695040888963407L;
        return (int) ((state >>> 33) % bound);
    }

    private static int from(int least, int greatest) {
        return least + drawn(greatest - least + 1);
    }

    private static int odd() {
        int[] odd = {Integer.MIN_VALUE, Integer.MIN_VALUE + 1, -100000, -1, 4, 100000, Integer.MAX_VALUE - 1,
            Integer.MAX_VALUE};
        return odd[drawn(odd.length)];
    }

    private static int drawnKey(Model model, int row, int wide) {
        switch (drawn(8)) {
            case 0:
                return odd();
            case 1:
                return new int[] {-99999, 99999, -9, -1}[drawn(4)];
            case 2: case 3:
                List<Item> items = model.rows.get(row);
                return items.isEmpty() ? 0 : items.get(drawn(items.size())).key;
            default:
                return from(-wide, wide);
        }
    }

    private static int drawnPlace(Model model, int row) {
        int size = model.rows.get(row).size();
        return drawn(12) == 0 ? odd() : from(drawn(8) == 0 ? -1 : 0, Math.max(0, drawn(4) == 0 ? size : size - 1));
    }

    private static int[] drawnNumbers(Model model, String called, int wide) {
        int row = drawn(4);
        int toldRow = drawn(40) == 0 ? odd() : row;
        int otherRow = drawn(40) == 0 ? odd() : drawn(4);
        switch (called) {
            case "fill":
                int most = drawn(3) == 0 ? Model.room(row) : 60;
                int many = drawn(20) == 0 ? from(149, 321) : drawn(most + 1);
                int a = drawn(20) == 0 ? from(-1001, 1001) : from(-wide, wide);
                int b = drawn(20) == 0 ? from(-1, 101) : from(1, drawn(2) == 0 ? 99 : 9);
                return new int[] {toldRow, many, drawn(20) == 0 ? from(-1, 8) : drawn(8), a, b};
            case "add": case "count": case "below": case "first":
                return new int[] {toldRow, drawnKey(model, row, wide), drawn(2)};
            case "put":
                return new int[] {toldRow, drawnPlace(model, row), drawnKey(model, row, wide)};
            case "roll":
                return new int[] {toldRow, from(drawn(9) == 0 ? -1 : 0, model.rows.get(row).size() + drawn(9) / 8)};
            case "keep":
                int from = drawn(2) == 0 ? 0 : drawnPlace(model, row);
                int to = drawn(2) == 0 ? model.rows.get(row).size() : drawnPlace(model, row);
                return new int[] {toldRow, from, to};
            case "copy": case "join": case "merge": case "same": case "bag":
                return new int[] {toldRow, otherRow};
            case "text":
                return new int[] {toldRow, drawnPlace(model, row), drawn(9) == 0 ? from(-1, 22) : drawn(21)};
            case "wrong":
                return new int[] {toldRow, drawn(9) == 0 ? odd() : drawn(2)};
            case "end": case "mark":
                return new int[] {toldRow, drawn(2)};
            case "house":
                return new int[] {drawn(9) == 0 ? odd() : drawn(6)};
            default:
                return new int[] {toldRow, drawnPlace(model, row), drawnPlace(model, row)};
        }
    }

    private static String drawnCall(int object) {
        // rows grow and are sorted often, so that many merges find sorted rows with room
        String[] often = {"fill", "add", "sort", "sort", "merge", "join", "copy", "put", "exchange", "roll"};
        return drawn(3) == object % 2 ? often[drawn(often.length)] : CALLED[drawn(CALLED.length)];
    }

    public static void main(String[] args) {
        int asked = 0;
        int wrong = 0;
        for (int object = 0; object < OBJECTS && wrong < 20; object++) {
            Runweaver x = new Runweaver();
            Model model = new Model();
            int wide = new int[] {3, 20, 999}[object % 3];
            for (int call = 0; call < CALLS && wrong < 20; call++) {
                String called = call % 100 == 99 || call == CALLS - 1 ? "digest" : drawnCall(object);
                int[] numbers = drawnNumbers(model, called, wide);
                Object got = answer(x, called, numbers);
                Object want = model.answer(called, numbers);
                asked++;
                if (!want.equals(got)) {
                    wrong++;
                    System.out.println("object " + object + ", call " + call + ": " + called
                            + java.util.Arrays.toString(numbers) + " answered " + got + ", due is " + want);
                }
            }
        }
        System.out.println(wrong == 0 ? asked + " answers are as due" : wrong + " answers are not as due");
        if (wrong != 0) {
            System.exit(1);
        }
    }
}
