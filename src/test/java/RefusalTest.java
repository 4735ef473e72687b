import java.util.ArrayList;
import java.util.List;

/**
 * What stands ahead of the promises: a call that is refused changes nothing, and of several refusals the first
 * one named is answered. A story is told to two new books, to one of them with the refused call behind it; then
 * all that can be asked of them, or done with them, has to be answered alike. No book is used beyond its 512th call.
 */
public final class RefusalTest {
    private static final int CALLS_MOST = 512;
    /** What is refused makes no more calls than these. */
    private static final int SPARED = 60;
    private static final int NUMBER = EditionBook.NUMBER;
    private static final int FULL = EditionBook.FULL;
    private static final int MIN = Integer.MIN_VALUE;
    private static final int MAX = Integer.MAX_VALUE;

    private interface Call {
        long on(EditionBook x);
    }

    private record Told(String words, Call call) { }

    // ---- stories

    private static void put(List<Told> story, int n, int a, int b, int c, int d) {
        story.add(new Told("put(" + n + ", " + a + ", " + b + ", " + c + ", " + d + ")", x -> x.put(n, a, b, c, d)));
    }

    private static void type(List<Told> story, int... ints) {
        for (int i = 0; i < ints.length; i++) {
            put(story, 1, ints[i], 0, 0, 0);
        }
    }

    private static void cell(List<Told> story, int name, int sort, int... text) {
        type(story, text);
        story.add(new Told("cell(" + name + ", " + sort + ")", x -> x.cell(name, sort)));
    }

    private static void rerun(List<Told> story, int c) {
        story.add(new Told("rerun(" + c + ")", x -> x.rerun(c)));
    }

    private static void does(List<Told> story, String words, Call call) {
        story.add(new Told(words, call));
    }

    /**
     * NAME 0 a CLASS with a METHOD, 1 its OBJECT, 2 an int that is STALE, 3 one that FAILED, 4 a CLASS whose START
     * failed, 5 FORGOTTEN, 6 one that LEANS on it, 7 one that writes; two images are kept, a METHOD was called.
     */
    private static List<Told> usual() {
        List<Told> story = new ArrayList<>();
        cell(story, 0, 1, -1, 2, 0, 10, 3, 13, 1, 0, 4, 16, 17, 6, 0);
        does(story, "keep(0)", x -> x.keep(0) ? 1 : 0);
        cell(story, 1, 0, 2, 0);
        cell(story, 2, 0, 1, 1, 5, 0);
        cell(story, 3, 0, 1, 1, 5, 9);
        cell(story, 4, 1, -1, 0, 0, 0, 1, 0, 0, 11);
        cell(story, 8, 0, 2, 4);
        cell(story, 5, 0, 0, 55);
        cell(story, 6, 0, 1, 5);
        cell(story, 7, 0, 0, 77, 15, 1, 1, 15, 18);
        does(story, "forget(5)", x -> x.forget(5));
        does(story, "call(0, 0, 42)", x -> x.call(0, 0, 42));
        does(story, "keep(1)", x -> x.keep(1) ? 1 : 0);
        rerun(story, 1);
        return story;
    }

    private static List<Told> withTape(List<Told> story, int... tape) {
        List<Told> all = new ArrayList<>(story);
        type(all, tape);
        return all;
    }

    /** 40 CELLS, 150 EDITIONS (of CELL 0, on which CELL 1 LEANS: it is STALE), or 150 OBJECTS. */
    private static List<Told> fullOfCells() {
        List<Told> story = new ArrayList<>();
        for (int c = 0; c < 40; c++) {
            cell(story, c % 16, 0, 0, c);
        }
        return story;
    }

    private static List<Told> manyEditions(int many) {
        List<Told> story = new ArrayList<>();
        cell(story, 0, 0, 0, 7);
        cell(story, 1, 0, 1, 0);
        for (int e = 2; e < many; e++) {
            rerun(story, 0);
        }
        return story;
    }

    private static List<Told> fullOfObjects() {
        List<Told> story = new ArrayList<>();
        cell(story, 0, 1, -1, 1, 2, 22, 0);
        cell(story, 1, 0, Rows.join(Rows.row(2, 0), Rows.times(14, 2, 0, 18)));
        for (int i = 0; i < 9; i++) {
            rerun(story, 1);
        }
        cell(story, 2, 0, 0, 1);
        return story;
    }

    // ---- what may follow

    private static EditionBook book(List<Told> story) {
        EditionBook x = new EditionBook();
        for (Told t : story) {
            t.call.on(x);
        }
        return x;
    }

    private static void askOfCells(List<Told> all, int cells) {
        for (int c = 0; c < cells; c++) {
            int k = c;
            for (int what = 0; what < 9; what++) {
                int w = what;
                all.add(new Told("of(" + k + ", " + w + ")", x -> x.of(k, w)));
            }
            for (int i = 0; i < 3; i++) {
                int j = i;
                all.add(new Told("leans(" + k + ", " + j + ")", x -> x.leans(k, j)));
                all.add(new Told("written(" + k + ", " + j + ", 0)", x -> x.written(k, j, 0)));
                all.add(new Told("written(" + k + ", " + j + ", 1)", x -> x.written(k, j, 1)));
            }
            all.add(new Told("stale(" + k + ")", x -> x.stale(k) ? 1 : 0));
        }
    }

    private static void askOfTheRest(List<Told> all, int editions, int objects) {
        for (int what = 0; what < 4; what++) {
            int w = what;
            all.add(new Told("count(" + w + ")", x -> x.count(w)));
            all.add(new Told("came(" + w + ")", x -> x.came(w)));
        }
        for (int name = 0; name < 16; name++) {
            int n = name;
            all.add(new Told("newest(" + n + ")", x -> x.newest(n)));
        }
        for (int e = 0; e < editions; e++) {
            int k = e;
            for (int what = 0; what < 8; what++) {
                int w = what;
                all.add(new Told("edition(" + k + ", " + w + ")", x -> x.edition(k, w)));
            }
        }
        for (int o = 0; o < objects; o++) {
            int k = o;
            all.add(new Told("classOf(" + k + ")", x -> x.classOf(k)));
            for (int f = 0; f < 4; f++) {
                int g = f;
                all.add(new Told("field(" + k + ", " + g + ", 0)", x -> x.field(k, g, 0)));
                all.add(new Told("field(" + k + ", " + g + ", 1)", x -> x.field(k, g, 1)));
            }
        }
    }

    private static List<Told> shortLook(int cells) {
        List<Told> all = new ArrayList<>();
        for (int c = Math.max(0, cells - 2); c <= cells; c++) {
            int k = c;
            for (int what : new int[] {0, 1, 3, 4, 8}) {
                all.add(new Told("of(" + k + ", " + what + ")", x -> x.of(k, what)));
            }
        }
        all.add(new Told("the last EDITION's VALUE", x -> x.edition(x.count(0) - 1, 6)));
        askOfTheRest(all, 0, 1);
        return all;
    }

    /** Rows of calls, each short enough to be made on a book that has heard the story. */
    private static List<List<Told>> whatMayFollow(List<Told> story) {
        EditionBook x = book(story);
        int cells = x.count(2);
        List<List<Told>> rows = new ArrayList<>();
        List<Told> asked = new ArrayList<>();
        askOfCells(asked, cells);
        askOfTheRest(asked, x.count(0), x.count(1));
        int room = CALLS_MOST - story.size() - SPARED;
        for (int i = 0; i < asked.size(); i += room) {
            rows.add(asked.subList(i, Math.min(asked.size(), i + room)));
        }
        List<Told> first = new ArrayList<>();
        for (int sort = 0; sort < 2; sort++) {
            int s = sort;
            first.add(new Told("cell(12, " + s + ")", y -> y.cell(12, s)));
        }
        first.add(new Told("rerunStale()", EditionBook::rerunStale));
        first.add(new Told("back(0)", y -> y.back(0) ? 1 : 0));
        first.add(new Told("back(1)", y -> y.back(1) ? 1 : 0));
        first.add(new Told("call(0, 0, 3)", y -> y.call(0, 0, 3)));
        for (int c = 0; c < Math.min(cells, 10); c++) {
            int k = c;
            first.add(new Told("rerun(" + k + ")", y -> y.rerun(k)));
        }
        for (Told t : first) {
            List<Told> row = new ArrayList<>(List.of(t));
            row.addAll(shortLook(cells));
            rows.add(row);
        }
        return rows;
    }

    // ---- the test

    private static void refused(List<Told> story, String words, long answer, Call call) {
        Check.due(words, call.on(book(story)), answer);
        for (List<Told> row : whatMayFollow(story)) {
            EditionBook with = book(story);
            call.on(with);
            EditionBook without = book(story);
            for (Told t : row) {
                Check.due(t.words + ", behind " + words, t.call.on(with), t.call.on(without));
            }
        }
    }

    private static void ofTheTape() {
        Check.sentence("ahead of promise 1", "A call that is refused changes nothing: put");
        for (int n : new int[] {MIN, -1, 0, 5, MAX}) {
            refused(withTape(usual(), 0, 8), "put(" + n + ", ..)", NUMBER, x -> x.put(n, 15, 15, 15, 15));
        }
        int[] nearlyFull = Rows.join(Rows.times(19, 0, 1), Rows.times(18, 8), Rows.row(15, 15));
        Check.due("ints", nearlyFull.length, 58);
        List<Told> story = usual();
        for (int i = 0; i < 56; i += 4) {
            put(story, 4, nearlyFull[i], nearlyFull[i + 1], nearlyFull[i + 2], nearlyFull[i + 3]);
        }
        put(story, 2, nearlyFull[56], nearlyFull[57], 0, 0);
        refused(story, "put(3, ..) at 58", FULL, x -> x.put(3, 15, 15, 15, 15));
        refused(story, "put(4, ..) at 58", FULL, x -> x.put(4, 15, 15, 15, 15));
    }

    private static void ofCells() {
        Check.sentence("ahead of promise 1", "A call that is refused changes nothing: cell");
        for (int k : new int[] {MIN, -1, 16, MAX}) {
            refused(withTape(usual(), 0, 8), "cell(" + k + ", 0)", NUMBER, x -> x.cell(k, 0));
        }
        for (int k : new int[] {MIN, -1, 2, MAX}) {
            refused(withTape(usual(), 0, 8), "cell(0, " + k + ")", NUMBER, x -> x.cell(0, k));
        }
        refused(withTape(usual(), 0, 8), "cell(1, 1) with a FAULT", -101, x -> x.cell(1, 1));
        refused(withTape(usual(), -1, 0, 0), "cell(0, 0) with a FAULT", -100, x -> x.cell(0, 0));
        refused(withTape(usual(), 0, 8, 1, 5), "cell(0, 0) with a FAULT", -102, x -> x.cell(0, 0));
        refused(withTape(fullOfCells(), 0, 8), "cell(0, 0), 40 CELLS", FULL, x -> x.cell(0, 0));
        refused(withTape(manyEditions(150), 0, 8), "cell(0, 0), 150 EDITIONS", FULL, x -> x.cell(0, 0));

        Check.sentence("ahead of promise 1", "A call that is refused changes nothing: redo");
        for (int k : new int[] {MIN, -1, 9, 40, MAX}) {
            refused(withTape(usual(), 0, 8), "redo(" + k + ")", NUMBER, x -> x.redo(k));
        }
        refused(withTape(usual(), 0, 8), "redo(0) with a FAULT", -101, x -> x.redo(0));
        refused(withTape(usual(), -1, 0, 0), "redo(1) with a FAULT", -100, x -> x.redo(1));
        refused(withTape(usual(), 0, 8, 1, 1), "redo(8) with a FAULT behind it", -104, x -> x.redo(8));
        refused(usual(), "redo(8) by an empty tape", -100, x -> x.redo(8));
        refused(withTape(manyEditions(150), 0, 8), "redo(0), 150 EDITIONS", FULL, x -> x.redo(0));

        Check.sentence("ahead of promise 1", "A call that is refused changes nothing: rerun");
        for (int k : new int[] {MIN, -1, 9, 40, MAX}) {
            refused(withTape(usual(), 0, 8), "rerun(" + k + ")", NUMBER, x -> x.rerun(k));
        }
        refused(withTape(usual(), 0, 8), "rerun(7) with a FAULT", -100, x -> x.rerun(7));
        refused(withTape(manyEditions(150), 0, 8), "rerun(1), 150 EDITIONS", FULL, x -> x.rerun(1));

        Check.sentence("ahead of promise 1", "A call that is refused changes nothing: rerunStale, forget");
        refused(withTape(manyEditions(150), 0, 8), "rerunStale(), 150 EDITIONS", FULL, EditionBook::rerunStale);
        List<Told> story = manyEditions(148);
        cell(story, 2, 0, 1, 0);
        rerun(story, 1);
        refused(story, "rerunStale(), 150 EDITIONS, none STALE", 0, EditionBook::rerunStale);
        for (int k : new int[] {MIN, -1, 16, MAX}) {
            refused(withTape(usual(), 0, 8), "forget(" + k + ")", NUMBER, x -> x.forget(k));
        }
        refused(withTape(usual(), 0, 8), "forget(5), FORGOTTEN", 0, x -> x.forget(5));
        refused(withTape(usual(), 0, 8), "forget(15), never there", 0, x -> x.forget(15));
    }

    private static void ofObjects() {
        Check.sentence("ahead of promise 1", "A call that is refused changes nothing: call");
        for (int k : new int[] {MIN, -1, 2, 150, MAX}) {
            refused(withTape(usual(), 0, 8), "call(" + k + ", 0, 7)", NUMBER, x -> x.call(k, 0, 7));
        }
        for (int k : new int[] {MIN, -1, 5, MAX}) {
            refused(withTape(usual(), 0, 8), "call(0, " + k + ", 7)", NUMBER, x -> x.call(0, k, 7));
        }

        Check.sentence("ahead of promise 1", "A call that is refused changes nothing: convert");
        for (int k : new int[] {MIN, -1, 2, 150, MAX}) {
            refused(withTape(usual(), 0, 8), "convert(" + k + ", 0)", NUMBER, x -> x.convert(k, 0));
        }
        for (int k : new int[] {MIN, -1, 1, 5, 15, 16, MAX}) {
            refused(withTape(usual(), 0, 8), "convert(0, " + k + ")", NUMBER, x -> x.convert(0, k));
        }
        refused(withTape(fullOfObjects(), 0, 8), "convert(0, 0), 150 OBJECTS", FULL, x -> x.convert(0, 0));

        Check.sentence("Promises 22, 23", "false: nothing is kept, and nothing is again");
        for (int k : new int[] {MIN, -1, 2, MAX}) {
            refused(withTape(usual(), 0, 8), "keep(" + k + ")", 0, x -> x.keep(k) ? 1 : 0);
            refused(withTape(usual(), 0, 8), "back(" + k + ")", 0, x -> x.back(k) ? 1 : 0);
        }
        refused(withTape(fullOfObjects(), 0, 8), "back(0), nothing is kept", 0, x -> x.back(0) ? 1 : 0);
        refused(withTape(fullOfObjects(), 0, 8), "back(1), nothing is kept", 0, x -> x.back(1) ? 1 : 0);

        Check.sentence("Promises 9 to 18, 20", "what is asked changes nothing");
        refused(withTape(usual(), 0, 8), "all that can be asked", 0, x -> {
            for (int i = -1; i < 4; i++) {
                x.of(i, i);
                x.leans(i, 0);
                x.stale(i);
                x.written(i, 0, 1);
                x.count(i);
                x.newest(i);
                x.edition(i, 6);
                x.classOf(i);
                x.field(i, 0, 1);
                x.is(i, 0);
                x.came(i);
            }
            return 0;
        });
    }

    // ---- of several refusals

    private static void firstNamed() {
        Check.sentence("ahead of promise 1", "Of several refusals that a call names the first one named is answered: put");
        EditionBook x = new EditionBook();
        for (int i = 0; i < 15; i++) {
            x.put(4, 0, 0, 0, 0);
        }
        Check.due("put(5, ..) on a full tape", x.put(5, 0, 0, 0, 0), NUMBER);
        Check.due("put(0, ..) on a full tape", x.put(0, 0, 0, 0, 0), NUMBER);
        Check.due("put(MAX, ..) on a full tape", x.put(MAX, 0, 0, 0, 0), NUMBER);
        Check.due("put(1, ..) on a full tape", x.put(1, 0, 0, 0, 0), FULL);

        Check.sentence("ahead of promise 1", "the first one named is answered: cell");
        for (List<Told> story : List.of(fullOfCells(), manyEditions(150))) {
            x = book(withTape(story, 99));
            Check.due("cell(16, 0)", x.cell(16, 0), NUMBER);
            Check.due("cell(-1, 1)", x.cell(-1, 1), NUMBER);
            Check.due("cell(0, 2)", x.cell(0, 2), NUMBER);
            Check.due("cell(0, -1)", x.cell(0, -1), NUMBER);
            Check.due("cell(0, 0)", x.cell(0, 0), FULL);
            Check.due("cell(0, 1)", x.cell(0, 1), FULL);
        }
        x = book(withTape(usual(), 99));
        Check.due("cell(16, 0) with a FAULT", x.cell(16, 0), NUMBER);
        Check.due("cell(0, 2) with a FAULT", x.cell(0, 2), NUMBER);

        Check.sentence("ahead of promise 1", "the first one named is answered: redo, rerun");
        x = book(withTape(manyEditions(150), 99));
        Check.due("redo(2), 150 EDITIONS", x.redo(2), NUMBER);
        Check.due("redo(-1), 150 EDITIONS", x.redo(-1), NUMBER);
        Check.due("rerun(2), 150 EDITIONS", x.rerun(2), NUMBER);
        Check.due("rerun(-1), 150 EDITIONS", x.rerun(-1), NUMBER);
        Check.due("redo(0) with a FAULT, 150 EDITIONS", x.redo(0), FULL);
        x.forget(0);
        Check.due("rerun(1) with a FAULT, 150 EDITIONS", x.rerun(1), FULL);
        x = book(withTape(usual(), 99));
        Check.due("redo(9) with a FAULT", x.redo(9), NUMBER);

        Check.sentence("ahead of promise 1", "the first one named is answered: convert");
        x = book(fullOfObjects());
        Check.due("convert(150, 0), 150 OBJECTS", x.convert(150, 0), NUMBER);
        Check.due("convert(-1, 0), 150 OBJECTS", x.convert(-1, 0), NUMBER);
        Check.due("convert(0, 2), 150 OBJECTS", x.convert(0, 2), NUMBER);
        Check.due("convert(0, 16), 150 OBJECTS", x.convert(0, 16), NUMBER);
        Check.due("convert(0, 0), 150 OBJECTS", x.convert(0, 0), FULL);
    }

    /** That the stories are what they are told to be: without this a refusal could hide behind another one. */
    private static void stories() {
        Check.sentence("the stories", "are as full as they say");
        Check.due("CELLS", book(fullOfCells()).count(2), 40);
        Check.due("EDITIONS", book(manyEditions(150)).count(0), 150);
        Check.due("one is STALE", book(manyEditions(150)).stale(1), true);
        Check.due("OBJECTS", book(fullOfObjects()).count(1), 150);
        EditionBook x = book(usual());
        Check.due("CELLS", x.count(2), 9);
        Check.due("OBJECTS", x.count(1), 2);
        Check.due("FAILED", x.of(3, 0), 1);
        Check.due("STALE", x.stale(2), true);
        Check.due("a START failed", x.edition(x.newest(4), 6), 2);
        Check.due("FORGOTTEN", x.newest(5), -1);
        Check.due("came(1)", x.came(1), 42);
    }

    public static void main(String[] args) {
        stories();
        ofTheTape();
        ofCells();
        ofObjects();
        firstNamed();
        Check.end();
    }
}
