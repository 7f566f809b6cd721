import java.util.List;
import java.util.function.Supplier;

/** The bounds that the document's Terms name, each sentence by itself, with calls on both sides of each bound. */
public final class TermBoundTests {
    private record RowCall(String name, Of call) {
        interface Of {
            Object of(Runweaver x, int row);
        }
    }

    private record PlaceCall(String name, boolean isWithNext, Of call) {
        interface Of {
            Object of(Runweaver x, int row, int place);
        }
    }

    private static final List<RowCall> ROW_CALLS = List.of(
            new RowCall("fill", (x, row) -> x.fill(row, 1, 0, 0, 1)), new RowCall("add", (x, row) -> x.add(row, 0)),
            new RowCall("put", (x, row) -> x.put(row, 0, 0)), new RowCall("drop", (x, row) -> x.drop(row, 0)),
            new RowCall("clear", (x, row) -> x.clear(row)), new RowCall("exchange", (x, row) -> x.exchange(row, 0)),
            new RowCall("swap", (x, row) -> x.swap(row, 0, 1)), new RowCall("turn", (x, row) -> x.turn(row)),
            new RowCall("roll", (x, row) -> x.roll(row, 1)), new RowCall("keep", (x, row) -> x.keep(row, 0, 1)),
            new RowCall("sort", (x, row) -> x.sort(row)), new RowCall("copy", (x, row) -> x.copy(row, 3)),
            new RowCall("copy into", (x, row) -> x.copy(1, row)), new RowCall("join", (x, row) -> x.join(row, 1)),
            new RowCall("join other", (x, row) -> x.join(3, row)), new RowCall("merge", (x, row) -> x.merge(row, 1)),
            new RowCall("merge other", (x, row) -> x.merge(1, row)), new RowCall("many", (x, row) -> x.many(row)),
            new RowCall("key", (x, row) -> x.key(row, 0)), new RowCall("stamp", (x, row) -> x.stamp(row, 0)),
            new RowCall("rank", (x, row) -> x.rank(row, 0)), new RowCall("would", (x, row) -> x.would(row, 0)),
            new RowCall("wouldStamp", (x, row) -> x.wouldStamp(row, 0)),
            new RowCall("wrongAt", (x, row) -> x.wrongAt(row, 0)), new RowCall("after", (x, row) -> x.after(row, 0)),
            new RowCall("runAt", (x, row) -> x.runAt(row, 0)), new RowCall("text", (x, row) -> x.text(row, 0, 1)),
            new RowCall("isSorted", (x, row) -> x.isSorted(row)),
            new RowCall("isFalling", (x, row) -> x.isFalling(row)),
            new RowCall("isKept", (x, row) -> x.isKept(row)), new RowCall("wrong by 0", (x, row) -> x.wrong(row, 0)),
            new RowCall("wrong by 1", (x, row) -> x.wrong(row, 1)), new RowCall("right", (x, row) -> x.right(row)),
            new RowCall("ties", (x, row) -> x.ties(row)), new RowCall("runs", (x, row) -> x.runs(row)),
            new RowCall("longest", (x, row) -> x.longest(row)), new RowCall("count", (x, row) -> x.count(row, 0)),
            new RowCall("below", (x, row) -> x.below(row, 0)), new RowCall("first", (x, row) -> x.first(row, 0, false)),
            new RowCall("last", (x, row) -> x.first(row, 0, true)), new RowCall("least", (x, row) -> x.end(row, false)),
            new RowCall("greatest", (x, row) -> x.end(row, true)), new RowCall("unlike", (x, row) -> x.unlike(row)),
            new RowCall("most", (x, row) -> x.most(row)), new RowCall("sum", (x, row) -> x.sum(row)),
            new RowCall("same", (x, row) -> x.same(row, 1)), new RowCall("same other", (x, row) -> x.same(1, row)),
            new RowCall("bag", (x, row) -> x.bag(row, 1)), new RowCall("bag other", (x, row) -> x.bag(1, row)),
            new RowCall("mark by keys", (x, row) -> x.mark(row, false)),
            new RowCall("mark by stamps", (x, row) -> x.mark(row, true)));

    private static final List<PlaceCall> PLACE_CALLS = List.of(
            new PlaceCall("put", false, (x, row, place) -> x.put(row, place, 0)),
            new PlaceCall("drop", false, (x, row, place) -> x.drop(row, place)),
            new PlaceCall("exchange", true, (x, row, place) -> x.exchange(row, place)),
            new PlaceCall("swap", false, (x, row, place) -> x.swap(row, place, 0)),
            new PlaceCall("swap other", false, (x, row, place) -> x.swap(row, 0, place)),
            new PlaceCall("swap both", false, (x, row, place) -> x.swap(row, place, place)),
            new PlaceCall("key", false, (x, row, place) -> x.key(row, place)),
            new PlaceCall("stamp", false, (x, row, place) -> x.stamp(row, place)),
            new PlaceCall("rank", false, (x, row, place) -> x.rank(row, place)),
            new PlaceCall("would", false, (x, row, place) -> x.would(row, place)),
            new PlaceCall("wouldStamp", false, (x, row, place) -> x.wouldStamp(row, place)),
            new PlaceCall("wrongAt", false, (x, row, place) -> x.wrongAt(row, place)),
            new PlaceCall("after", true, (x, row, place) -> x.after(row, place)),
            new PlaceCall("runAt", false, (x, row, place) -> x.runAt(row, place)));

    private static boolean isThrown(Object answer) {
        return answer.toString().startsWith("throws.");
    }

    // ==== the Terms' first sentences

    private static void fewestAnswers() {
        Runweaver x = Checks.filled(0, 150, 0, 0, 1);
        Checks.due("NONE, as a stamp", Checks.with(2, 4).stamp(2, 0), -1);
        Checks.due("NONE, as a place", x.first(0, 4, false), -1);
        Checks.due("NOTHING, as an end", x.end(1, false), -100000);
        Checks.due("NOTHING, as the key that stands most often", x.most(1), -100000);
        Checks.due("REFUSED", x.add(0, 4), -9);
    }

    private static void refusedIsCountedOnly() {
        Checks.dueRefused("add", () -> Checks.filled(1, 150, 7, 0, 1), x -> x.add(1, 5));
        Checks.dueRefused("copy", () -> Checks.filled(3, 151, 7, 0, 1), x -> x.copy(3, 2));
        Checks.dueRefused("join", () -> Checks.filled(2, 76, 7, 0, 1), x -> x.join(2, 2));
        Checks.dueRefused("merge", Checks::busy, x -> x.merge(0, 1));
        Runweaver x = Checks.filled(0, 150, 7, 0, 1);
        String ahead = Checks.all(x);
        for (int more = 1; more <= 4; more++) {
            x.add(0, 5);
            x.join(0, 0);
            x.merge(0, 1);
            Checks.due("refusals", x.house(2), 3 * more);
        }
        Checks.due("all, after twelve refusals", Checks.all(x), ahead);
        Checks.due("an act after them", x.add(1, 5), 1);
        Checks.due("its stamp", x.stamp(1, 0), 150);
    }

    private static void nothingIsRefusedThatAnswersItByKey() {
        Runweaver x = Checks.with(2, -9, -9, -9);
        Checks.due("put", x.put(2, 0, -9), -9);
        Checks.due("drop", x.drop(2, 0), -9);
        Checks.due("key", x.key(2, 0), -9);
        Checks.due("would", x.would(2, 0), -9);
        Checks.due("least", x.end(2, false), -9);
        Checks.due("greatest", x.end(2, true), -9);
        Checks.due("most", x.most(2), -9);
        Checks.due("house", Checks.house(x), "2 5 0 0 0 4");
    }

    private static void throwsChangeNothing() {
        for (RowCall it : ROW_CALLS) {
            Checks.dueThrow(it.name, Checks.RANGE, Checks::busy, x -> it.call.of(x, 4));
            Checks.dueThrow(it.name, Checks.RANGE, TermBoundTests::fullOfAll, x -> it.call.of(x, -1));
        }
        for (PlaceCall it : PLACE_CALLS) {
            Checks.dueThrow(it.name, Checks.RANGE, Checks::busy, x -> it.call.of(x, 0, 3));
            Checks.dueThrow(it.name, Checks.RANGE, TermBoundTests::fullOfAll, x -> it.call.of(x, 1, 150));
        }
        Checks.dueThrow("house", Checks.ARGUMENT, Checks::busy, x -> x.house(6));
        Checks.dueThrow("house", Checks.ARGUMENT, TermBoundTests::fullOfAll, x -> x.house(-1));
    }

    private static Runweaver fullOfAll() {
        Runweaver x = new Runweaver();
        for (int row = 0; row < 4; row++) {
            x.fill(row, Checks.ROOM[row], 7, row, 9);
        }
        x.add(2, 5);
        x.knock();
        return x;
    }

    private static void firstNamedIsThrown() {
        int noRow = 4;
        Checks.dueThrow("fill, row and many", Checks.RANGE, Checks::busy, x -> x.fill(noRow, -1, 0, 0, 1));
        Checks.dueThrow("fill, row and pattern", Checks.RANGE, Checks::busy, x -> x.fill(noRow, 1, 8, 0, 1));
        Checks.dueThrow("fill, row and a", Checks.RANGE, Checks::busy, x -> x.fill(noRow, 1, 0, 1000, 1));
        Checks.dueThrow("fill, row and b", Checks.RANGE, Checks::busy, x -> x.fill(noRow, 1, 0, 0, 0));
        Checks.dueThrow("fill, all", Checks.RANGE, Checks::busy, x -> x.fill(-1, 321, -1, -1000, 100));
        Checks.dueThrow("add, row and key", Checks.RANGE, Checks::busy, x -> x.add(noRow, 100000));
        Checks.dueThrow("put, row and key", Checks.RANGE, Checks::busy, x -> x.put(noRow, 0, 100000));
        Checks.dueThrow("put, place and key", Checks.RANGE, Checks::busy, x -> x.put(0, 3, 100000));
        Checks.dueThrow("put, place below and key", Checks.RANGE, Checks::busy, x -> x.put(0, -1, -100000));
        Checks.dueThrow("put, without items and key", Checks.RANGE, Runweaver::new, x -> x.put(0, 0, -100000));
        Checks.dueThrow("put, all", Checks.RANGE, Checks::busy, x -> x.put(-1, -1, -100000));
        Checks.dueThrow("put, key alone", Checks.ARGUMENT, Checks::busy, x -> x.put(0, 2, -100000));
        Checks.dueThrow("roll, row and by", Checks.RANGE, Checks::busy, x -> x.roll(noRow, -1));
        Checks.dueThrow("roll, by alone", Checks.ARGUMENT, Checks::busy, x -> x.roll(0, -1));
        Checks.dueThrow("text, row and many", Checks.RANGE, Checks::busy, x -> x.text(noRow, 0, 21));
        Checks.dueThrow("text, from and many", Checks.RANGE, Checks::busy, x -> x.text(0, 4, 21));
        Checks.dueThrow("text, from below and many", Checks.RANGE, Checks::busy, x -> x.text(0, -1, -1));
        Checks.dueThrow("text, many alone", Checks.ARGUMENT, Checks::busy, x -> x.text(0, 3, -1));
        Checks.dueThrow("wrong, row and how", Checks.RANGE, Checks::busy, x -> x.wrong(noRow, 2));
        Checks.dueThrow("wrong, how alone", Checks.ARGUMENT, Checks::busy, x -> x.wrong(0, 2));
        Checks.dueThrow("count, row and key", Checks.RANGE, Checks::busy, x -> x.count(noRow, 100000));
        Checks.dueThrow("below, row and key", Checks.RANGE, Checks::busy, x -> x.below(noRow, -100000));
        Checks.dueThrow("first, row and key", Checks.RANGE, Checks::busy, x -> x.first(noRow, 100000, false));
        Checks.dueThrow("last, row and key", Checks.RANGE, Checks::busy, x -> x.first(-1, -100000, true));
    }

    private static void exceptionsGoAheadOfRefused() {
        for (int row = 0; row < 4; row++) {
            int r = row;
            Supplier<Runweaver> full = () -> Checks.filled(r, Checks.ROOM[r], 7, 0, 1);
            Checks.dueRefused("add to full row " + r, full, x -> x.add(r, 99999));
            Checks.dueThrow("add of a key above to full row " + r, Checks.ARGUMENT, full, x -> x.add(r, 100000));
            Checks.dueThrow("add of a key below to full row " + r, Checks.ARGUMENT, full, x -> x.add(r, -100000));
            Checks.dueRefused("join of full row " + r, full, x -> x.join(r, r));
            Checks.dueThrow("join of full row " + r + " and 4", Checks.RANGE, full, x -> x.join(r, 4));
            Checks.dueThrow("join of -1 and full row " + r, Checks.RANGE, full, x -> x.join(-1, r));
            Checks.dueRefused("merge of full row " + r, full, x -> x.merge(r, r));
            Checks.dueThrow("merge of full row " + r + " and -1", Checks.RANGE, full, x -> x.merge(r, -1));
            Checks.dueThrow("merge of 4 and full row " + r, Checks.RANGE, full, x -> x.merge(4, r));
            Checks.dueThrow("copy of full row " + r + " into 4", Checks.RANGE, full, x -> x.copy(r, 4));
            Checks.dueThrow("copy of full row " + r + " into -1", Checks.RANGE, full, x -> x.copy(r, -1));
            Checks.dueThrow("copy of 4 into full row " + r, Checks.RANGE, full, x -> x.copy(4, r));
        }
    }

    /** What the 512th call answers is still due, also if each call ahead of it was the dearest one. */
    private static void fiveHundredAndTwelveCalls() {
        Runweaver knocked = new Runweaver();
        for (int call = 1; call < 512; call++) {
            knocked.knock();
        }
        Checks.due("the 512th knock", knocked.knock(), 512);
        Runweaver filled = new Runweaver();
        for (int call = 0; call < 510; call++) {
            filled.fill(call % 2, 150, 0, 0, 1);
        }
        Checks.due("the last stamp of 510 rows", filled.stamp(1, 149), 76499);
        Checks.due("stamps given by them", filled.house(4), 76500);
        Runweaver refused = Checks.filled(3, 320, 0, 0, 1);
        for (int call = 1; call < 511; call++) {
            refused.add(3, 0);
        }
        Checks.due("refusals", refused.house(2), 510);
        Runweaver told = fullOfAll();
        long digest = told.digest();
        for (int call = 0; call < 500; call++) {
            told.text(3, 300, 20);
        }
        Checks.due("digest after 500 texts", told.digest(), digest);
    }

    // ==== section 1: rows and items

    private static void rowsAreFour() {
        for (RowCall it : ROW_CALLS) {
            for (int row : new int[] {-1, 4, Checks.LEAST, Checks.GREATEST}) {
                Checks.dueThrow(it.name + " of row " + row, Checks.RANGE, Checks::busy, x -> it.call.of(x, row));
            }
            for (int row = 0; row < 4; row++) {
                int r = row;
                Object got = Checks.answer(Checks.busy(), x -> it.call.of(x, r));
                Checks.due(it.name + " of row " + row + " throws", isThrown(got), false);
            }
        }
    }

    private static void bothRowsMustBe() {
        int[] outside = {-1, 4, Checks.LEAST, Checks.GREATEST};
        for (int row : outside) {
            for (int other : outside) {
                String both = " of " + row + " and " + other;
                Checks.dueThrow("copy" + both, Checks.RANGE, Checks::busy, x -> x.copy(row, other));
                Checks.dueThrow("join" + both, Checks.RANGE, Checks::busy, x -> x.join(row, other));
                Checks.dueThrow("merge" + both, Checks.RANGE, Checks::busy, x -> x.merge(row, other));
                Checks.dueThrow("same" + both, Checks.RANGE, Checks::busy, x -> x.same(row, other));
                Checks.dueThrow("bag" + both, Checks.RANGE, Checks::busy, x -> x.bag(row, other));
            }
        }
    }

    private static void rowsHaveNoneAtFirst() {
        for (int row = 0; row < 4; row++) {
            int r = row;
            Checks.dueAsked("many", 0, Runweaver::new, x -> x.many(r));
            Checks.dueAsked("text", "", Runweaver::new, x -> x.text(r, 0, 20));
            Checks.dueThrow("key at 0", Checks.RANGE, Runweaver::new, x -> x.key(r, 0));
            Checks.dueThrow("text from 1", Checks.RANGE, Runweaver::new, x -> x.text(r, 1, 20));
        }
    }

    private static void rowsHaveRoom() {
        for (int row = 0; row < 4; row++) {
            int r = row;
            int most = Checks.ROOM[row];
            Checks.dueDone("fill of all", 0, Runweaver::new, x -> x.fill(r, most, 0, 0, 1));
            Checks.dueThrow("fill of one more", Checks.ARGUMENT, Runweaver::new, x -> x.fill(r, most + 1, 0, 0, 1));
            Supplier<Runweaver> oneLess = () -> Checks.filled(r, most - 1, 0, 0, 1);
            Supplier<Runweaver> full = () -> Checks.filled(r, most, 0, 0, 1);
            Checks.dueDone("add of the last one", most, oneLess, x -> x.add(r, 7));
            Checks.dueRefused("add of one more", full, x -> x.add(r, 7));
            Checks.dueDone("join of the last ones", most, () -> Checks.filled(r, most / 2, 0, 0, 1), x -> x.join(r, r));
            Checks.dueRefused("join of more", () -> Checks.filled(r, most / 2 + 1, 0, 0, 1), x -> x.join(r, r));
            Checks.dueDone("merge of the last ones", most, () -> Checks.filled(r, most / 2, 0, 0, 1),
                    x -> x.merge(r, r));
            Checks.dueRefused("merge of more", () -> Checks.filled(r, most / 2 + 1, 0, 0, 1), x -> x.merge(r, r));
            Checks.due("the last place of a full row", full.get().key(r, most - 1), 0);
        }
        for (int into = 0; into < 3; into++) {
            int i = into;
            Checks.dueDone("copy of all", 150, () -> Checks.filled(3, 150, 0, 0, 1), x -> x.copy(3, i));
            Checks.dueRefused("copy of one more", () -> Checks.filled(3, 151, 0, 0, 1), x -> x.copy(3, i));
        }
        Runweaver four = fullOfAll();
        Checks.due("all rows full", four.house(0), 770);
    }

    private static void oneAfterTheOther() {
        Runweaver x = new Runweaver();
        for (int more = 1; more <= 320; more++) {
            Checks.due("add to row 3", x.add(3, more), more);
        }
        Checks.due("add of one more", x.add(3, 0), Checks.REFUSED);
        Checks.due("its last keys", x.text(3, 300, 20),
                "301 302 303 304 305 306 307 308 309 310 311 312 313 314 315 316 317 318 319 320");
        Checks.due("drop makes room for one", x.drop(3, 0), 1);
        Checks.due("add", x.add(3, 5), 320);
        Checks.due("add of one more", x.add(3, 5), Checks.REFUSED);
        Checks.due("keep makes room for two", x.keep(3, 1, 319), 318);
        Checks.due("add", x.add(3, 6), 319);
        Checks.due("add", x.add(3, 7), 320);
        Checks.due("add of one more", x.add(3, 8), Checks.REFUSED);
        Checks.due("its last keys", x.text(3, 316, 20), "319 320 6 7");
    }

    private static void placesGoFromNoneToLess() {
        for (int row = 0; row < 4; row++) {
            for (int many : new int[] {1, 2, 3, Checks.ROOM[row]}) {
                placesOfRow(row, many);
            }
            for (PlaceCall it : PLACE_CALLS) {
                int r = row;
                for (int place : new int[] {0, 1, -1, Checks.GREATEST}) {
                    Checks.dueThrow(it.name + " without items at " + place, Checks.RANGE, Runweaver::new,
                            x -> it.call.of(x, r, place));
                }
            }
        }
    }

    private static void placesOfRow(int row, int many) {
        Supplier<Runweaver> made = () -> Checks.filled(row, many, 7, 3, 3);
        for (PlaceCall it : PLACE_CALLS) {
            String name = it.name + " of row " + row + " of " + many + " at ";
            int end = it.isWithNext ? many - 1 : many;
            for (int place : new int[] {-1, Checks.LEAST, end, end + 1, Checks.GREATEST - 1, Checks.GREATEST}) {
                Checks.dueThrow(name + place, Checks.RANGE, made, x -> it.call.of(x, row, place));
            }
            for (int place : new int[] {0, end - 1}) {
                if (end > 0) {
                    Object got = Checks.answer(made.get(), x -> it.call.of(x, row, place));
                    Checks.due(name + place + " throws", isThrown(got), false);
                }
            }
        }
    }

    private static void placesThatWentAreNone() {
        List<Checks.Call> shorter = List.of(x -> x.keep(0, 0, 2), x -> x.keep(0, 1, 3), x -> x.drop(0, 0),
                x -> x.drop(0, 2), x -> x.fill(0, 2, 0, 0, 1), x -> x.copy(1, 0));
        for (Checks.Call act : shorter) {
            Supplier<Runweaver> made = () -> {
                Runweaver x = Checks.with(0, 7, 8, 9);
                Checks.addAll(x, 1, 4, 5);
                act.of(x);
                return x;
            };
            for (PlaceCall it : PLACE_CALLS) {
                int last = it.isWithNext ? 0 : 1;
                Object got = Checks.answer(made.get(), x -> it.call.of(x, 0, last));
                Checks.due(it.name + " at the last place throws", isThrown(got), false);
                Checks.dueThrow(it.name + " at the place that went", Checks.RANGE, made,
                        x -> it.call.of(x, 0, last + 1));
            }
        }
        Supplier<Runweaver> cleared = () -> {
            Runweaver x = Checks.with(3, 7);
            x.clear(3);
            return x;
        };
        for (PlaceCall it : PLACE_CALLS) {
            Checks.dueThrow(it.name + " after clear", Checks.RANGE, cleared, x -> it.call.of(x, 3, 0));
        }
    }

    private static void keysHaveBounds() {
        for (int row = 0; row < 4; row++) {
            int r = row;
            Supplier<Runweaver> ends = () -> Checks.with(r, -99999, 99999, 0);
            for (int key : new int[] {-100000, 100000, -100001, 100001, Checks.LEAST, Checks.GREATEST}) {
                Checks.dueThrow("add of " + key, Checks.ARGUMENT, ends, x -> x.add(r, key));
                Checks.dueThrow("put of " + key, Checks.ARGUMENT, ends, x -> x.put(r, 2, key));
                Checks.dueThrow("count of " + key, Checks.ARGUMENT, ends, x -> x.count(r, key));
                Checks.dueThrow("below of " + key, Checks.ARGUMENT, ends, x -> x.below(r, key));
                Checks.dueThrow("first of " + key, Checks.ARGUMENT, ends, x -> x.first(r, key, false));
                Checks.dueThrow("last of " + key, Checks.ARGUMENT, ends, x -> x.first(r, key, true));
            }
            for (int key : new int[] {-99999, 99999}) {
                boolean isLeast = key < 0;
                Checks.dueDone("add of " + key, 4, ends, x -> x.add(r, key));
                Runweaver then = Checks.dueDone("put of " + key, 0, ends, x -> x.put(r, 2, key));
                Checks.due("the key that was put", then.key(r, 2), key);
                Checks.dueAsked("count of " + key, 1, ends, x -> x.count(r, key));
                Checks.dueAsked("below " + key, isLeast ? 0 : 2, ends, x -> x.below(r, key));
                Checks.dueAsked("first of " + key, isLeast ? 0 : 1, ends, x -> x.first(r, key, false));
                Checks.dueAsked("last of " + key, isLeast ? 0 : 1, ends, x -> x.first(r, key, true));
            }
        }
    }

    private static void stampsStartWithNone() {
        Runweaver x = new Runweaver();
        Checks.addAll(x, 2, 5, 5);
        x.fill(3, 9, 0, 0, 1);
        x.add(1, 5);
        x.add(0, 5);
        x.add(1, 5);
        Checks.dueRow(x, 0, "5", "1");
        Checks.dueRow(x, 1, "5 5", "0 2");
        Checks.due("stamps given", x.house(4), 3);
        Runweaver other = Checks.with(0, 5);
        Checks.due("the first stamp of another object", other.stamp(0, 0), 0);
    }

    private static void keysAloneHaveNoStamp() {
        for (int row = 2; row < 4; row++) {
            Runweaver x = Checks.with(row, 8, 9);
            x.put(row, 1, 7);
            x.join(row, row);
            Checks.dueRow(x, row, "8 7 8 7", "-1 -1 -1 -1");
            Checks.due("wouldStamp", x.wouldStamp(row, 3), Checks.NONE);
            Checks.due("stamps given", x.house(4), 0);
            x.fill(row, Checks.ROOM[row], 7, 0, 1);
            Checks.due("the last stamp of a full row", x.stamp(row, Checks.ROOM[row] - 1), Checks.NONE);
            Checks.due("stamps given by fill", x.house(4), 0);
        }
    }

    private static void stampsAreNeverGivenAgain() {
        List<Checks.Call> gone = List.of(x -> x.drop(0, 2), x -> x.clear(0), x -> x.keep(0, 0, 1),
                x -> x.fill(0, 0, 0, 0, 1), x -> x.copy(1, 0), x -> x.copy(3, 0));
        for (int act = 0; act < gone.size(); act++) {
            Runweaver x = Checks.with(0, 7, 8, 9);
            gone.get(act).of(x);
            x.add(1, 4);
            Checks.due("the stamp after act " + act, x.stamp(1, 0), 3);
            Checks.due("stamps given after act " + act, x.house(4), 4);
        }
        Runweaver put = Checks.with(0, 7, 8, 9);
        put.put(0, 2, 9);
        put.put(0, 2, 9);
        Checks.dueRow(put, 0, "7 8 9", "0 1 4");
        Runweaver filled = Checks.with(0, 7, 8, 9);
        filled.fill(0, 3, 1, 7, 1);
        Checks.dueRow(filled, 0, "7 8 9", "3 4 5");
    }

    private static void stampsStayWithThings() {
        Runweaver x = Checks.with(0, 9, 7, 8);
        x.exchange(0, 0);
        Checks.dueRow(x, 0, "7 9 8", "1 0 2");
        x.swap(0, 0, 2);
        Checks.dueRow(x, 0, "8 9 7", "2 0 1");
        x.turn(0);
        Checks.dueRow(x, 0, "7 9 8", "1 0 2");
        x.roll(0, 1);
        Checks.dueRow(x, 0, "9 8 7", "0 2 1");
        x.sort(0);
        Checks.dueRow(x, 0, "7 8 9", "1 2 0");
        x.drop(0, 1);
        Checks.dueRow(x, 0, "7 9", "1 0");
        x.keep(0, 1, 2);
        Checks.dueRow(x, 0, "9", "0");
        Checks.due("stamps given", x.house(4), 3);
    }

    private static void thingsComeAsTheSame() {
        Runweaver copied = Checks.with(0, 4, 4, 6);
        copied.add(1, 5);
        copied.copy(0, 1);
        Checks.dueRow(copied, 1, "4 4 6", "0 1 2");
        Checks.dueRow(copied, 0, "4 4 6", "0 1 2");
        Checks.due("stamps given by copy", copied.house(4), 4);
        Runweaver joined = Checks.with(0, 4, 6);
        joined.add(1, 5);
        joined.join(1, 0);
        Checks.dueRow(joined, 1, "5 4 6", "2 0 1");
        joined.join(1, 1);
        Checks.dueRow(joined, 1, "5 4 6 5 4 6", "2 0 1 2 0 1");
        Checks.due("stamps given by join", joined.house(4), 3);
        Runweaver merged = Checks.with(0, 4, 6);
        Checks.addAll(merged, 1, 4, 5);
        merged.merge(1, 0);
        Checks.dueRow(merged, 1, "4 4 5 6", "2 0 3 1");
        merged.merge(0, 0);
        Checks.dueRow(merged, 0, "4 4 6 6", "0 0 1 1");
        Checks.due("stamps given by merge", merged.house(4), 4);
    }

    private static void keysComeAsNewThings() {
        for (int from = 2; from < 4; from++) {
            for (int into = 0; into < 2; into++) {
                Runweaver x = Checks.with(from, 4, 4, 6);
                x.add(into, 5);
                x.copy(from, into);
                Checks.dueRow(x, into, "4 4 6", "1 2 3");
                x.join(into, from);
                Checks.dueRow(x, into, "4 4 6 4 4 6", "1 2 3 4 5 6");
                x.sort(into);
                x.merge(into, from);
                // the keys get their stamps as they stand in their own row
                Checks.dueRow(x, into, "4 4 4 4 4 4 6 6 6", "1 2 4 5 7 8 3 6 9");
                Checks.dueRow(x, from, "4 4 6", "-1 -1 -1");
                Checks.due("stamps given", x.house(4), 10);
            }
        }
        Runweaver full = Checks.filled(3, 150, 1, 0, 1);
        full.merge(0, 3);
        Checks.due("first stamp of 150 keys", full.stamp(0, 0), 0);
        Checks.due("last stamp of 150 keys", full.stamp(0, 149), 149);
        Checks.due("stamps given by 150 keys", full.house(4), 150);
    }

    private static void keysThatReturnAreNew() {
        Runweaver x = Checks.with(0, 4, 6);
        x.copy(0, 2);
        x.copy(2, 0);
        Checks.dueRow(x, 0, "4 6", "2 3");
        x.join(3, 0);
        x.merge(2, 0);
        Checks.dueRow(x, 3, "4 6", "-1 -1");
        Checks.dueRow(x, 2, "4 4 6 6", "-1 -1 -1 -1");
        x.copy(2, 3);
        Checks.dueRow(x, 3, "4 4 6 6", "-1 -1 -1 -1");
        Checks.due("stamps given", x.house(4), 4);
    }

    private static void otherRowStays() {
        for (int from = 0; from < 4; from++) {
            for (int into = 0; into < 4; into++) {
                Runweaver x = Checks.with(from, 3, 3, 8);
                String keys = Checks.keys(x, from);
                String stamps = Checks.stamps(x, from);
                if (from != into) {
                    x.add(into, 5);
                    x.merge(into, from);
                    x.join(into, from);
                    x.copy(from, into);
                    x.put(into, 0, 99);
                    x.clear(into);
                    Checks.dueRow(x, from, keys, stamps);
                }
            }
        }
    }

    public static void main(String[] args) {
        Checks.test("NONE is -1, NOTHING is -100000. REFUSED is -9", TermBoundTests::fewestAnswers);
        Checks.test("REFUSED: nothing changes then, but that it is counted", TermBoundTests::refusedIsCountedOnly);
        Checks.test("it is told where a method names it (a KEY may be -9)",
                TermBoundTests::nothingIsRefusedThatAnswersItByKey);
        Checks.test("A method that throws an exception changes nothing", TermBoundTests::throwsChangeNothing);
        Checks.test("If several exceptions apply, the one that is named first is thrown",
                TermBoundTests::firstNamedIsThrown);
        Checks.test("exceptions go ahead of REFUSED", TermBoundTests::exceptionsGoAheadOfRefused);
        Checks.test("An object is used for at most 512 calls", TermBoundTests::fiveHundredAndTwelveCalls);
        Checks.test("There are four ROWS, 0 to 3", TermBoundTests::rowsAreFour);
        Checks.test("if there is no such ROW (both)", TermBoundTests::bothRowsMustBe);
        Checks.test("ITEMS (none at first)", TermBoundTests::rowsHaveNoneAtFirst);
        Checks.test("the ROWS 0, 1 and 2 can have 150 each, the ROW 3 can have 320", TermBoundTests::rowsHaveRoom);
        Checks.test("can have 320: one after the other, and after some went", TermBoundTests::oneAfterTheOther);
        Checks.test("a ROW has the PLACES from 0 to one less than how many ITEMS it has",
                TermBoundTests::placesGoFromNoneToLess);
        Checks.test("PLACES: how many ITEMS it has, also if it had more", TermBoundTests::placesThatWentAreNone);
        Checks.test("a KEY, a number of -99999 to 99999", TermBoundTests::keysHaveBounds);
        Checks.test("0 for the first one of all (in both ROWS together), and so on",
                TermBoundTests::stampsStartWithNone);
        Checks.test("in the ROWS 2 and 3 their STAMP is told as NONE", TermBoundTests::keysAloneHaveNoStamp);
        Checks.test("is never given again, also if that goes", TermBoundTests::stampsAreNeverGivenAgain);
        Checks.test("a STAMP stays with its THING", TermBoundTests::stampsStayWithThings);
        Checks.test("of the ROWS 0 and 1 the same ones, with KEY and STAMP", TermBoundTests::thingsComeAsTheSame);
        Checks.test("of the ROWS 2 and 3 new ones with these KEYS", TermBoundTests::keysComeAsNewThings);
        Checks.test("What comes to the ROWS 2 and 3 are KEYS alone", TermBoundTests::keysThatReturnAreNew);
        Checks.test("The ROW from which they come stays as it is, if it is another one", TermBoundTests::otherRowStays);
        Checks.end();
    }
}
