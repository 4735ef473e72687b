/** Promises 1 to 6, 9, 10 and 12 to 23, sentence by sentence: what each call answers at its boundaries. */
public final class CallEdgeTest {
    private static final int MIN = Integer.MIN_VALUE;
    private static final int MAX = Integer.MAX_VALUE;
    private static final int NUMBER = EditionBook.NUMBER;
    private static final int FULL = EditionBook.FULL;

    // ---- promise 1

    private static void newObject() {
        Check.sentence("Promise 1", "No CELLS, EDITIONS, OBJECTS; an empty tape");
        Book x = new Book();
        for (int what = 0; what < 4; what++) {
            Check.due("count(" + what + ")", x.count(what), 0);
        }
        for (int name = 0; name < 16; name++) {
            Check.due("newest(" + name + ")", x.newest(name), -1);
            Check.due("forget(" + name + ")", x.forget(name), 0);
        }
        Check.due("wipe()", x.wipe(), 0);
        Check.due("redo(0)", x.redo(0), NUMBER);
        Check.due("rerun(0)", x.rerun(0), NUMBER);
        Check.due("of(0, 0)", x.of(0, 0), -3);
        Check.due("leans(0, 0)", x.leans(0, 0), -1);
        Check.due("stale(0)", x.stale(0), false);
        Check.due("written(0, 0, 0)", x.written(0, 0, 0), 0);
        Check.due("edition(0, 0)", x.edition(0, 0), -3);
        Check.due("classOf(0)", x.classOf(0), -1);
        Check.due("field(0, 0, 0)", x.field(0, 0, 0), -1);
        Check.due("is(0, 0)", x.is(0, 0), false);
        Check.due("call(0, 0, 0)", x.call(0, 0, 0), NUMBER);
        Check.due("convert(0, 0)", x.convert(0, 0), NUMBER);

        Check.sentence("Promise 1", "nothing kept");
        Check.due("back(0)", x.back(0), false);
        Check.due("back(1)", x.back(1), false);

        Check.sentence("Promise 1", "a new object (nothing of another one)");
        x.value(0, 0, 1);
        x.type(1, 2, 3);
        x.keep(0);
        Book y = new Book();
        Check.due("count(2)", y.count(2), 0);
        Check.due("count(3)", y.count(3), 0);
        Check.due("newest(0)", y.newest(0), -1);
        Check.due("back(0)", y.back(0), false);

        Check.sentence("Terms", "The constants");
        Check.due("NUMBER", EditionBook.NUMBER, -1);
        Check.due("FULL", EditionBook.FULL, -2);
    }

    // ---- promises 2, 3

    private static void tape() {
        Check.sentence("Promise 2", "The first n of the four come behind the tape: how many it has");
        // a row that sums up 1 to 4, put by 1, 2, 3 and 4
        Book x = new Book();
        Check.due("put(1, ..)", x.put(1, 0, 99, 99, 99), 1);
        Check.due("put(2, ..)", x.put(2, 1, 0, 99, 99), 3);
        Check.due("put(3, ..)", x.put(3, 2, 8, 0, 99), 6);
        Check.due("put(4, ..)", x.put(4, 3, 8, 0, 4), 10);
        Check.due("put(1, ..)", x.put(1, 8, 99, 99, 99), 11);
        Check.due("cell", x.cell(0, 0), 0);
        Check.due("1 + 2 + 3 + 4", x.edition(0, 6), 10);
        Check.due("of(0, 8)", x.of(0, 8), 11);

        Check.sentence("Promise 2", "NUMBER: n isn't 1 .. 4");
        for (int n : new int[] {0, 5, -1, MIN, MAX}) {
            Check.due("put(" + n + ", ..)", x.put(n, 0, 0, 0, 0), NUMBER);
        }
        Check.due("count(3)", x.count(3), 0);

        Check.sentence("Promise 2", "FULL: above 60");
        for (int n = 1; n <= 4; n++) {
            x.type(new int[60 - n]);
            Check.due("put(" + n + ", ..) to 60", x.put(n, 0, 0, 0, 0), 60);
            Check.due("put(" + n + ", ..) at 60", x.put(n, 0, 0, 0, 0), FULL);
            x.type(new int[61 - n]);
            Check.due("put(" + n + ", ..) to 61", x.put(n, 0, 0, 0, 0), FULL);
            Check.due("count(3)", x.count(3), 61 - n);
        }

        Check.sentence("Promise 3", "The tape is empty: how many it had");
        x.type(new int[60]);
        Check.due("wipe() of 60", x.wipe(), 60);
        Check.due("wipe() of none", x.wipe(), 0);
        Check.due("count(3)", x.count(3), 0);
        x.put(1, 5, 0, 0, 0);
        Check.due("wipe() of 1", x.wipe(), 1);
        Check.due("put(2, ..), from its beginning on", x.put(2, 0, 8, 0, 0), 2);
        Check.due("cell", x.cell(0, 0), 1);
        Check.due("its VALUE", x.edition(1, 6), 8);
    }

    // ---- promises 4, 5, 6

    private static void cell() {
        Check.sentence("Promise 4", "A CELL comes, with the tape as its TEXT, and is RUN; the tape is empty then: its number");
        Book x = new Book();
        Check.due("WELL", x.value(0, 0, 7), 0);
        Check.due("count(3)", x.count(3), 0);
        Check.due("FAILED", x.value(0, 0, 7, 5, 0), 1);
        Check.due("count(3)", x.count(3), 0);
        Check.due("of(1, 8)", x.of(1, 8), 4);
        Check.due("a CLASS", x.clazz(15, -1, 0, 0), 2);
        Check.due("count(3)", x.count(3), 0);
        Check.due("count(2)", x.count(2), 3);

        Check.sentence("Promise 4", "NUMBER: name isn't 0 .. 15, sort not 0, 1");
        x.type(0, 7);
        for (int k : new int[] {-1, 16, MIN, MAX}) {
            Check.due("cell(" + k + ", 0)", x.cell(k, 0), NUMBER);
            Check.due("cell(" + k + ", 1)", x.cell(k, 1), NUMBER);
        }
        for (int k : new int[] {-1, 2, MIN, MAX}) {
            Check.due("cell(0, " + k + ")", x.cell(0, k), NUMBER);
        }
        Check.due("count(3)", x.count(3), 2);

        Check.sentence("Promise 4", "FULL: there are 40 CELLS");
        x = new Book();
        for (int c = 0; c < 39; c++) {
            x.value(0, 0, 7, 5, 0);
        }
        Check.due("the 40th", x.value(0, 0, 7), 39);
        Check.due("a 41st VALUE", x.value(0, 0, 7), FULL);
        Check.due("a 41st CLASS", x.clazz(0, -1, 0, 0), FULL);
        Check.due("count(0)", x.count(0), 1);
        Check.due("redo is no new CELL", x.retype(39, 0, 8), 0);

        Check.sentence("Promise 4", "FULL: there are 150 EDITIONS");
        x = new Book();
        x.value(0, 0, 7);
        x.makeEditions(0, 149);
        Check.due("the 150th EDITION", x.value(1, 0, 7), 1);
        Check.due("none more", x.value(1, 0, 7), FULL);
        Check.due("also one that would FAIL", x.value(1, 0, 7, 5, 0), FULL);
        Check.due("count(2)", x.count(2), 2);

        Check.sentence("Promise 4", "-100 less the place: the FAULT of its TEXT");
        x = new Book();
        Check.due("at 0", x.value(0), -100);
        Check.due("at 2", x.value(0, 0, 1, 8), -102);
        Check.due("behind 60", x.value(0, Rows.times(30, 0, 1)), -160);
        Check.due("the tape stays", x.count(3), 60);
        Check.due("no CELL", x.count(2), 0);
        Check.due("it is put right", x.wipe(), 60);
        Check.due("the number isn't lost", x.value(0, 0, 1), 0);
    }

    private static void redo() {
        Check.sentence("Promise 5", "The tape becomes the TEXT of a CELL, which is RUN; the tape is empty then: its OUTCOME");
        Book x = stepsBook();
        x.value(2, 0, 7);
        Check.due("0 WELL", x.retype(2, 0, 8, 15), 0);
        Check.due("count(3)", x.count(3), 0);
        Check.due("of(2, 8)", x.of(2, 8), 3);
        Check.due("1 FAILED", x.retype(2, 0, 8, 5, 0), 1);
        Check.due("count(3)", x.count(3), 0);
        Check.due("of(2, 8)", x.of(2, 8), 4);
        int[] beyond = Rows.join(Rows.times(8, 1, 1), Rows.row(0, 6), Rows.times(8, 7, 0));
        Check.due("2 SPENT", x.retype(2, beyond), 2);
        Check.due("count(3)", x.count(3), 0);
        Check.due("of(2, 8)", x.of(2, 8), beyond.length);
        Check.due("rerun by the new TEXT", x.rerun(2), 2);
        Check.due("count(2)", x.count(2), 3);

        Check.sentence("Promise 5", "NUMBER: there is no such CELL");
        x.type(0, 1);
        for (int c : new int[] {-1, 3, 40, MIN, MAX}) {
            Check.due("redo(" + c + ")", x.redo(c), NUMBER);
        }
        Check.due("count(3)", x.count(3), 2);

        Check.sentence("Promise 5", "FULL: there are 150 EDITIONS");
        x = new Book();
        x.value(0, 0, 7);
        x.makeEditions(0, 149);
        Check.due("the 150th", x.retype(0, 0, 9), 0);
        Check.due("none more", x.retype(0, 0, 10, 15), FULL);
        Check.due("the tape stays", x.count(3), 3);
        Check.due("the TEXT stays", x.of(0, 8), 2);

        Check.sentence("Promise 5", "-100 less the place: a FAULT (the TEXT stays as it was)");
        x = new Book();
        x.value(0, 0, 7);
        Check.due("redo", x.retype(0, 0, 9, 15, 8), -103);
        Check.due("the tape stays", x.count(3), 4);
        Check.due("of(0, 8)", x.of(0, 8), 2);
        Check.due("rerun", x.rerun(0), 0);
        Check.due("its VALUE", x.edition(1, 6), 7);
        Check.due("an empty tape", x.retype(0), -100);
        Check.due("of(0, 8)", x.of(0, 8), 2);
        Check.due("behind 60", x.retype(0, Rows.times(30, 0, 1)), -160);
        // a shorter TEXT leaves nothing of a longer one behind
        x.retype(0, 0, 9, 15, 15, 15);
        Check.due("shorter", x.retype(0, 0, 4), 0);
        Check.due("rerun", x.rerun(0), 0);
        Check.due("of(0, 3)", x.of(0, 3), 0);
        Check.due("its VALUE", x.edition(x.newest(0), 6), 4);
    }

    private static void rerun() {
        Check.sentence("Promise 6", "A CELL is RUN: its OUTCOME");
        Book x = stepsBook();
        x.value(2, 0, 7);
        x.value(3, 0, 7, 5, 0);
        x.value(4, Rows.join(Rows.times(8, 1, 1), Rows.row(0, 6), Rows.times(8, 7, 0)));
        x.type(9, 9, 9);
        Check.due("0 WELL", x.rerun(2), 0);
        Check.due("1 FAILED", x.rerun(3), 1);
        Check.due("2 SPENT", x.rerun(4), 2);
        Check.due("a CLASS", x.rerun(0), 0);
        Check.due("the tape is as it was", x.count(3), 3);

        Check.sentence("Promise 6", "NUMBER: there is no such CELL");
        for (int c : new int[] {-1, 5, 40, MIN, MAX}) {
            Check.due("rerun(" + c + ")", x.rerun(c), NUMBER);
        }

        Check.sentence("Promise 6", "FULL: there are 150 EDITIONS");
        x = new Book();
        x.value(0, 0, 7);
        x.value(1, 0, 7, 5, 0);
        x.makeEditions(0, 149);
        Check.due("one that FAILS makes none", x.rerun(1), 1);
        Check.due("the 150th", x.rerun(0), 0);
        Check.due("none more", x.rerun(0), FULL);
        Check.due("also one that would FAIL", x.rerun(1), FULL);

        Check.sentence("Promise 6", "-100 less the place: a FAULT");
        x = new Book();
        x.value(0, 0, 7);
        x.value(1, 0, 8, 1, 0, 18);
        x.clazz(2, -1, 0, 0);
        x.clazz(3, 2, 0, 1, 0, 3, 17, 3, 2);
        x.forget(0);
        Check.due("rerun(1)", x.rerun(1), -102);
        Check.due("rerun(3)", x.rerun(3), 0);
        x.forget(2);
        Check.due("rerun(3)", x.rerun(3), -100);
        x.retype(2, -1, 0, 0);
        Check.due("rerun(3)", x.rerun(3), 0);
    }

    /** NAME 0 a CLASS whose METHOD 0 makes 139 STEPS, 1 its OBJECT (number 0). */
    private static Book stepsBook() {
        Book x = new Book();
        int[] ends = Rows.times(4, 18);
        x.clazz(0, Rows.join(Rows.row(-1, 0, 3, 0, 24), Rows.times(5, 16, 17, 7, 1), ends,
            Rows.row(1, 24), Rows.times(5, 16, 17, 7, 2), ends, Rows.row(2, 1, 17)));
        x.value(1, 2, 0);
        return x;
    }

    // ---- promises 9, 10, 12

    private static void of() {
        Check.sentence("Promise 9", "Of a CELL, by its latest RUN without a FAULT: what = 0 .. 8");
        Book x = new Book();
        x.clazz(3, -1, 1, 0, 4, 1, 0, 3, 17, 15, 15);
        x.value(9, 2, 3);
        x.value(5, 1, 9, 0, 8, 7, 0, 2, 3, 15, 18);
        x.value(6, 0, 8, 15, 1, 9, 5, 1, 18);
        int[][] wants = {
            {0, 0, 0, 0, 0, 3, 1, 0, 10}, {0, 0, 1, 0, 1, 9, 0, 1, 2}, {0, 0, 9, 3, 2, 5, 0, 2, 10},
            {1, 3, 4, 1, -1, 6, 0, 1, 8}};
        for (int c = 0; c < wants.length; c++) {
            for (int what = 0; what < 9; what++) {
                Check.due("of(" + c + ", " + what + ")", x.of(c, what), wants[c][what]);
            }
        }
        // each of the next RUN, and none of one with a FAULT
        x.retype(3, 0, 1);
        x.retype(3, 0, 1, 0, 1);
        int[] anew = {0, 0, 1, 0, 3, 6, 0, 0, 2};
        for (int what = 0; what < 9; what++) {
            Check.due("of(3, " + what + ")", x.of(3, what), anew[what]);
        }

        Check.sentence("Promise 9", "NUMBER is answered as -3 here: there is no such CELL, or another what");
        for (int what : new int[] {-1, 9, 10, MIN, MAX}) {
            Check.due("of(0, " + what + ")", x.of(0, what), -3);
        }
        for (int c : new int[] {-1, 4, 40, MIN, MAX}) {
            Check.due("of(" + c + ", 0)", x.of(c, 0), -3);
            Check.due("of(" + c + ", 8)", x.of(c, 8), -3);
            Check.due("of(" + c + ", 9)", x.of(c, 9), -3);
        }

        Check.sentence("Promise 9", "4 the EDITION that it made (-1 without)");
        Check.due("of(3, 4)", x.of(3, 4), 3);
        x.retype(3, 0, 1, 5, 0);
        Check.due("of(3, 4)", x.of(3, 4), -1);
        Check.due("newest(6), of the RUN before", x.newest(6), 3);

        Check.sentence("Promise 9", "3 how many VALUES it wrote (all)");
        x.retype(3, Rows.join(Rows.row(0, 1), Rows.times(58, 15)));
        Check.due("of(3, 3)", x.of(3, 3), 58);
        x.retype(3, 0, 1);
        Check.due("of(3, 3)", x.of(3, 3), 0);
    }

    private static void leans() {
        Check.sentence("Promise 10", "EDITION i, rising, from 0 on, on which a CELL LEANS");
        Book x = new Book();
        for (int n = 0; n < 16; n++) {
            x.value(n, 0, n);
        }
        // all NAMES, falling
        int[] all = Rows.row(1, 15);
        for (int n = 14; n >= 0; n--) {
            all = Rows.join(all, Rows.row(1, n, 18));
        }
        int c = x.value(0, all);
        Check.due("of(c, 7)", x.of(c, 7), 16);
        for (int i = 0; i < 16; i++) {
            Check.due("leans(c, " + i + ")", x.leans(c, i), i);
        }
        // by the EDITION's number, not by the NAME's
        x.rerun(3);
        x.rerun(1);
        x.value(2, 1, 1, 1, 2, 8, 1, 3, 8);
        Check.due("leans(17, 0)", x.leans(17, 0), 2);
        Check.due("leans(17, 1)", x.leans(17, 1), 17);
        Check.due("leans(17, 2)", x.leans(17, 2), 18);

        Check.sentence("Promise 10", "-1 if there is none such");
        for (int i : new int[] {-1, 16, MIN, MAX}) {
            Check.due("leans(c, " + i + ")", x.leans(c, i), -1);
        }
        Check.due("leans(17, 3)", x.leans(17, 3), -1);
        Check.due("leans(0, 0)", x.leans(0, 0), -1);
        for (int k : new int[] {-1, 18, 40, MIN, MAX}) {
            Check.due("leans(" + k + ", 0)", x.leans(k, 0), -1);
        }
        // fewer than in the RUN before
        x.retype(16, 1, 5);
        Check.due("leans(16, 0)", x.leans(16, 0), 5);
        Check.due("leans(16, 1)", x.leans(16, 1), -1);
    }

    private static void written() {
        Check.sentence("Promise 12", "what = 0: 0 an int, 1 an OBJECT; what = 1 the int, the OBJECT's number");
        Book x = new Book();
        x.clazz(0, -1, 0, 0);
        x.value(1, 2, 0, 2, 0, 15, 0, MIN, 15, 18, 18);
        Check.due("written(1, 0, 0)", x.written(1, 0, 0), 1);
        Check.due("written(1, 0, 1)", x.written(1, 0, 1), 1);
        Check.due("written(1, 1, 0)", x.written(1, 1, 0), 0);
        Check.due("written(1, 1, 1)", x.written(1, 1, 1), MIN);

        Check.sentence("Promise 12", "0 if there is none such");
        for (int i : new int[] {-1, 2, 20, MIN, MAX}) {
            Check.due("written(1, " + i + ", 0)", x.written(1, i, 0), 0);
            Check.due("written(1, " + i + ", 1)", x.written(1, i, 1), 0);
        }
        for (int what : new int[] {-1, 2, MIN, MAX}) {
            Check.due("written(1, 0, " + what + ")", x.written(1, 0, what), 0);
        }
        for (int c : new int[] {-1, 2, 40, MIN, MAX}) {
            Check.due("written(" + c + ", 0, 1)", x.written(c, 0, 1), 0);
        }
        Check.due("a CLASS writes none", x.written(0, 0, 1), 0);

        Check.sentence("Promise 12", "the first 20 alone");
        // they are counted up, so that each is another one
        int[] code = Rows.row(0, 100, 15);
        for (int i = 1; i < 15; i++) {
            code = Rows.join(code, Rows.row(0, 1, 8, 15));
        }
        Check.due("15 in a TEXT", code.length, 59);
        x.clazz(2, Rows.join(Rows.row(-1, 0, 1, 0, 41, 17, 15), Rows.times(9, 0, 1, 8, 15), Rows.row(0, 1, 8)));
        x.value(3, 2, 2, 2, 2, 2, 2, 0, 100, 7, 0, 7, 0, 7, 0);
        Check.due("of(3, 0)", x.of(3, 0), 0);
        Check.due("of(3, 3)", x.of(3, 3), 30);
        for (int i = 0; i < 20; i++) {
            Check.due("written(3, " + i + ", 1)", x.written(3, i, 1), 100 + i);
        }
        for (int i = 20; i < 31; i++) {
            Check.due("written(3, " + i + ", 0)", x.written(3, i, 0), 0);
            Check.due("written(3, " + i + ", 1)", x.written(3, i, 1), 0);
        }
        // just 20, and just 21
        x.retype(3, Rows.join(Rows.row(0, 7), Rows.times(20, 15)));
        Check.due("written(3, 19, 1)", x.written(3, 19, 1), 7);
        Check.due("of(3, 3)", x.of(3, 3), 20);
        x.retype(3, Rows.join(Rows.row(0, 7), Rows.times(21, 15)));
        Check.due("written(3, 19, 1)", x.written(3, 19, 1), 7);
        Check.due("written(3, 20, 1)", x.written(3, 20, 1), 0);
        Check.due("of(3, 3)", x.of(3, 3), 21);

        // ints and OBJECTS by turns, an OBJECT as the 20th
        x.clazz(4, -1, 0, 1, 0, 7, 17, 15, 16, 15, 17, 18, 18);
        x.value(5, 2, 4);
        int o = x.edition(x.newest(5), 6);
        Check.due("an OBJECT that isn't number 0", o > 0, true);
        x.value(6, Rows.join(Rows.times(11, 1, 5), Rows.row(0, 7), Rows.times(11, 7, 0)));
        Check.due("of(6, 3)", x.of(6, 3), 22);
        for (int i = 0; i < 20; i++) {
            Check.due("written(6, " + i + ", 0)", x.written(6, i, 0), i % 2);
            Check.due("written(6, " + i + ", 1)", x.written(6, i, 1), i % 2 == 0 ? 7 : o);
        }
        for (int i : new int[] {-2, -1, 20, 21, 22}) {
            Check.due("written(6, " + i + ", 0)", x.written(6, i, 0), 0);
            Check.due("written(6, " + i + ", 1)", x.written(6, i, 1), 0);
        }

        Check.sentence("Promise 12", "VALUE i that a CELL wrote in that RUN");
        x.retype(3, code);
        Check.due("written(3, 14, 1)", x.written(3, 14, 1), 114);
        Check.due("none of the RUN before", x.written(3, 15, 1), 0);
        x.retype(3, 99);
        Check.due("a FAULT is no such RUN", x.written(3, 14, 1), 114);
        x.retype(3, 0, 5, 15, 5, 0);
        Check.due("one that FAILS is", x.written(3, 0, 1), 5);
        Check.due("written(3, 1, 1)", x.written(3, 1, 1), 0);
    }

    // ---- promises 13 to 15

    private static void countAndNewest() {
        Check.sentence("Promise 13", "How many EDITIONS (what = 0), OBJECTS (1), CELLS (2), ints on the tape (3) there are");
        Book x = new Book();
        x.clazz(0, -1, 0, 0);
        x.value(1, 2, 0, 2, 0, 18);
        x.rerun(1);
        x.value(2, 0, 1, 5, 0);
        x.type(1, 2, 3, 4, 5);
        Check.due("count(0)", x.count(0), 3);
        Check.due("count(1)", x.count(1), 4);
        Check.due("count(2)", x.count(2), 3);
        Check.due("count(3)", x.count(3), 5);

        Check.sentence("Promise 13", "-1 for another what");
        for (int what : new int[] {-1, 4, MIN, MAX}) {
            Check.due("count(" + what + ")", x.count(what), -1);
        }

        Check.sentence("Promise 14", "The newest EDITION of a NAME; -1 if there is none");
        Check.due("newest(0)", x.newest(0), 0);
        Check.due("newest(1)", x.newest(1), 2);
        Check.due("newest(2), FAILED", x.newest(2), -1);
        Check.due("newest(15), never", x.newest(15), -1);
        x.forget(1);
        Check.due("newest(1), FORGOTTEN", x.newest(1), -1);
        for (int name : new int[] {-1, 16, MIN, MAX}) {
            Check.due("newest(" + name + ")", x.newest(name), -1);
        }
        x.value(15, 0, 1);
        Check.due("newest(15)", x.newest(15), 3);
    }

    private static void edition() {
        Check.sentence("Promise 15", "Of an EDITION: what = 0 .. 7");
        Book x = new Book();
        x.clazz(3, -1, 0, 0);
        x.clazz(4, 3, 0, 0, 0, 1);
        x.value(0, 0, -3);
        x.value(1, 2, 4, 2, 4, 18);
        x.rerun(0);
        x.clazz(5, -1, 0, 0, 0, 0, 5, 0);
        x.value(6, 2, 5);
        x.value(0, 0, MIN);
        int[][] wants = {
            {3, 0, 0, 1, 0, -1, 1, 0}, {4, 0, 1, 1, 1, 0, 1, 2}, {0, 0, 2, 0, 0, 0, -3, 0}, {1, 0, 3, 0, 1, 1, 1, 0},
            {3, 1, 0, 1, 1, -1, 0, 0}, {5, 0, 4, 1, 1, -1, 2, 0}, {0, 1, 6, 0, 1, 0, MIN, 0}};
        Check.due("count(0)", x.count(0), wants.length);
        for (int e = 0; e < wants.length; e++) {
            for (int what = 0; what < 8; what++) {
                Check.due("edition(" + e + ", " + what + ")", x.edition(e, what), wants[e][what]);
            }
        }

        Check.sentence("Promise 15", "NUMBER is answered as -3 here: there is none such, or another what");
        for (int what : new int[] {-1, 8, MIN, MAX}) {
            for (int e = 0; e < 3; e++) {
                Check.due("edition(" + e + ", " + what + ")", x.edition(e, what), -3);
            }
        }
        for (int e : new int[] {-1, 7, 150, MIN, MAX}) {
            for (int what = 0; what < 8; what++) {
                Check.due("edition(" + e + ", " + what + ")", x.edition(e, what), -3);
            }
        }

        Check.sentence("Promise 15", "1 how many older ones that NAME has (FORGOTTEN ones, too)");
        x.forget(3);
        x.rerun(0);
        Check.due("edition(7, 1)", x.edition(7, 1), 2);
        Check.due("edition(0, 1)", x.edition(0, 1), 0);

        Check.sentence("Promise 15", "4 1 if it is the newest one of its NAME, else 0");
        Check.due("edition(4, 4)", x.edition(4, 4), 0);
        Check.due("edition(7, 4)", x.edition(7, 4), 1);
        x.forget(3);
        Check.due("edition(7, 4), FORGOTTEN", x.edition(7, 4), 0);

        Check.sentence("Promise 15", "7 how many OBJECTS were made of it (not of one below it; also by convert)");
        Check.due("edition(0, 7)", x.edition(0, 7), 0);
        Check.due("convert(0, 4)", x.convert(0, 4), 2);
        Check.due("edition(1, 7)", x.edition(1, 7), 3);
    }

    // ---- promises 16 to 18

    /** NAME 0 a CLASS with FIELDS 0 and 9, 1 one below it with FIELD 5, 2 an OBJECT of 1 (0), 3 one of 0 (1). */
    private static Book bookOfObjects() {
        Book x = new Book();
        x.clazz(0, -1, 2, 0, 10, 9, MIN, 1, 0, 2, 17, 15);
        x.clazz(1, 0, 1, 5, 15, 1, 4, 1, 16);
        x.value(2, 2, 1);
        x.value(3, 2, 0);
        x.value(4, 1, 2, 1, 3, 6, 5);
        return x;
    }

    private static void objects() {
        Check.sentence("Promise 16", "The CLASS (an EDITION) of an OBJECT; -1 if there is none such");
        Book x = bookOfObjects();
        Check.due("classOf(0)", x.classOf(0), 1);
        Check.due("classOf(1)", x.classOf(1), 0);
        for (int o : new int[] {-1, 2, 150, MIN, MAX}) {
            Check.due("classOf(" + o + ")", x.classOf(o), -1);
        }
        x.rerun(1);
        Check.due("classOf(0), the one it was made of", x.classOf(0), 1);

        Check.sentence("Promise 17", "what = 0: 0 an int, 1 an OBJECT; what = 1 the int, the OBJECT's number");
        Check.due("field(0, 5, 0)", x.field(0, 5, 0), 1);
        Check.due("field(0, 5, 1)", x.field(0, 5, 1), 1);
        Check.due("field(0, 0, 0)", x.field(0, 0, 0), 0);
        Check.due("field(0, 0, 1)", x.field(0, 0, 1), 10);
        Check.due("field(0, 9, 1)", x.field(0, 9, 1), MIN);

        Check.sentence("Promise 17", "-1 it has none (or there is no such OBJECT)");
        for (int f : new int[] {-1, 1, 8, 10, 11, MIN, MAX}) {
            Check.due("field(0, " + f + ", 0)", x.field(0, f, 0), -1);
        }
        Check.due("field(1, 5, 0), below it alone", x.field(1, 5, 0), -1);
        for (int o : new int[] {-1, 2, 150, MIN, MAX}) {
            Check.due("field(" + o + ", 0, 0)", x.field(o, 0, 0), -1);
        }

        Check.sentence("Promise 17", "(0 without)");
        for (int f : new int[] {-1, 1, 8, 10, 11, MIN, MAX}) {
            Check.due("field(0, " + f + ", 1)", x.field(0, f, 1), 0);
        }
        for (int o : new int[] {-1, 2, 150, MIN, MAX}) {
            Check.due("field(" + o + ", 0, 1)", x.field(o, 0, 1), 0);
        }

        // FIELDS 0 and 9 are beside those that there aren't: whatever they have isn't told there
        x.value(7, 1, 2, 1, 3, 6, 9);
        x.value(7, 1, 2, 1, 3, 6, 0);
        for (int f : new int[] {-1, 10}) {
            Check.due("field(0, " + f + ", 0)", x.field(0, f, 0), -1);
            Check.due("field(0, " + f + ", 1)", x.field(0, f, 1), 0);
        }
        x = bookOfObjects();
        x.rerun(1);

        Check.sentence("Promise 18", "Whether an OBJECT is of an EDITION or below it");
        boolean[][] wants = {{true, true, false, false, false, false}, {true, false, false, false, false, false}};
        for (int o = 0; o < 2; o++) {
            for (int e = 0; e < 6; e++) {
                Check.due("is(" + o + ", " + e + ")", x.is(o, e), wants[o][e]);
            }
            for (int e : new int[] {-1, 6, 150, MIN, MAX}) {
                Check.due("is(" + o + ", " + e + ")", x.is(o, e), false);
            }
        }
        for (int o : new int[] {-1, 2, 150, MIN, MAX}) {
            Check.due("is(" + o + ", 0)", x.is(o, 0), false);
            Check.due("is(" + o + ", -1)", x.is(o, -1), false);
        }
    }

    // ---- promises 19, 20

    private static void came(Book x, int kind, int number, int failure, int steps) {
        int[] wants = {kind, number, failure, steps};
        for (int what = 0; what < 4; what++) {
            Check.due("came(" + what + ")", x.came(what), wants[what]);
        }
    }

    private static void callAndCame() {
        Check.sentence("Promise 20", "(0 before any)");
        Book x = bookOfObjects();
        came(x, 0, 0, 0, 0);

        Check.sentence("Promise 19", "with an int as its argument: 0 it ended");
        for (int argument : new int[] {MIN, -1, 0, MAX}) {
            Check.due("call(0, 0, " + argument + ")", x.call(0, 0, argument), 0);
            came(x, 0, argument, 0, 2);
        }

        Check.sentence("Promise 20", "what = 0: 0 it ended with an int, 1 with an OBJECT; 1 the int, the OBJECT's number");
        x.convert(0, 1);
        Check.due("call(2, 4, 7)", x.call(2, 4, 7), 0);
        came(x, 1, 2, 0, 1);

        Check.sentence("Promise 19", "NUMBER: there is no such OBJECT, m isn't 0 .. 4");
        for (int o : new int[] {-1, 3, 150, MIN, MAX}) {
            Check.due("call(" + o + ", 0, 0)", x.call(o, 0, 0), NUMBER);
        }
        for (int m : new int[] {-1, 5, 9, MIN, MAX}) {
            Check.due("call(0, " + m + ", 0)", x.call(0, m, 0), NUMBER);
        }

        Check.sentence("Promise 20", "Of the latest call() that wasn't refused");
        came(x, 1, 2, 0, 1);
        x.rerun(4);
        x.convert(0, 1);
        came(x, 1, 2, 0, 1);

        Check.sentence("Promise 20", "(0 where there is none)");
        for (int m = 1; m <= 3; m++) {
            Check.due("no METHOD " + m, x.call(0, m, 7), 1);
            came(x, 0, 0, 4, 0);
        }
        Check.due("METHOD 4 below it alone", x.call(1, 4, 7), 1);
        came(x, 0, 0, 4, 0);
        x.call(0, 4, 7);
        came(x, 1, 0, 0, 1);

        Check.sentence("Promise 20", "(0 for another what)");
        for (int what : new int[] {-1, 4, MIN, MAX}) {
            Check.due("came(" + what + ")", x.came(what), 0);
        }

        Check.sentence("Promise 19", "what it writes is told by nobody");
        x.call(0, 0, 55);
        for (int c = 0; c < 5; c++) {
            Check.due("of(" + c + ", 3)", x.of(c, 3), 0);
            Check.due("written(" + c + ", 0, 1)", x.written(c, 0, 1), 0);
        }
        x.value(6, 0, 66, 15);
        x.call(0, 0, 55);
        Check.due("written(5, 0, 1)", x.written(5, 0, 1), 66);
        Check.due("of(5, 3)", x.of(5, 3), 1);
        Check.due("no EDITION by it", x.count(0), 7);
    }

    // ---- promise 21

    private static void convert() {
        Check.sentence("Promise 21", "A new OBJECT of the newest EDITION of a NAME, a CLASS, comes: its number");
        Book x = bookOfObjects();
        x.retype(1, 0, 2, 5, 16, 7, 17, 0);
        Check.due("convert(0, 1)", x.convert(0, 1), 2);
        Check.due("classOf(2)", x.classOf(2), 5);
        Check.due("classOf(0)", x.classOf(0), 1);

        Check.sentence("Promise 21", "FIELDS that OBJECT o has, too, get what that has");
        Check.due("field(2, 5, 0)", x.field(2, 5, 0), 1);
        Check.due("field(2, 5, 1)", x.field(2, 5, 1), 1);
        Check.due("field(2, 9, 1)", x.field(2, 9, 1), MIN);
        Check.due("field(2, 7, 1), one that it hasn't", x.field(2, 7, 1), 17);
        Check.due("convert(0, 0)", x.convert(0, 0), 3);
        Check.due("field(3, 5, 0), one that the CLASS hasn't", x.field(3, 5, 0), -1);
        Check.due("convert(1, 1)", x.convert(1, 1), 4);
        Check.due("field(4, 5, 1), the first int", x.field(4, 5, 1), 16);

        // all ten, ints and OBJECTS
        Book y = new Book();
        y.clazz(0, -1, 4, 0, 0, 1, 0, 2, 0, 3, 0, 0);
        y.clazz(0, 0, 4, 4, 0, 5, 0, 6, 0, 7, 0, 0);
        y.clazz(0, 0, 2, 8, 0, 9, 0, 0);
        y.value(1, 2, 0, 2, 0, 18);
        for (int f = 0; f < 10; f++) {
            y.value(2, f % 2 == 0 ? Rows.row(1, 1, 0, 50 + f, 6, f) : Rows.row(1, 1, 1, 1, 6, f));
        }
        Check.due("convert(1, 0)", y.convert(1, 0), 2);
        for (int f = 0; f < 10; f++) {
            Check.due("field(2, " + f + ", 0)", y.field(2, f, 0), f % 2);
            Check.due("field(2, " + f + ", 1)", y.field(2, f, 1), f % 2 == 0 ? 50 + f : 1);
            Check.due("field(0, " + f + ", 1), another OBJECT", y.field(0, f, 1), 0);
        }
        // they are each their own from then on
        y.value(3, 1, 1, 0, 99, 6, 0);
        Check.due("field(1, 0, 1)", y.field(1, 0, 1), 99);
        Check.due("field(2, 0, 1)", y.field(2, 0, 1), 50);

        Check.sentence("Promise 21", "without its START");
        x.clazz(7, -1, 0, 0, 0, 0, 5, 0);
        x.clazz(8, 7, 0, 0, 0, 1, 15);
        Check.due("convert(0, 8)", x.convert(0, 8), 5);
        Check.due("not begun", x.edition(x.newest(8), 6), 0);
        Check.due("its parent isn't", x.edition(x.newest(7), 6), 0);
        x.value(9, 2, 8);
        Check.due("START failed", x.edition(x.newest(7), 6), 2);
        Check.due("convert(0, 7), of one that failed", x.convert(0, 7), 6);
        Check.due("convert(0, 8), of one below it", x.convert(0, 8), 7);

        Check.sentence("Promise 21", "NUMBER: there is no such OBJECT");
        for (int o : new int[] {-1, 8, 150, MIN, MAX}) {
            Check.due("convert(" + o + ", 0)", x.convert(o, 0), NUMBER);
        }

        Check.sentence("Promise 21", "NUMBER: the NAME has no newest EDITION that is a CLASS");
        Check.due("convert(0, 2), an OBJECT", x.convert(0, 2), NUMBER);
        Check.due("convert(0, 15), never there", x.convert(0, 15), NUMBER);
        x.forget(8);
        Check.due("convert(0, 8), FORGOTTEN", x.convert(0, 8), NUMBER);
        x.value(7, 0, 1);
        Check.due("convert(0, 7), an int now", x.convert(0, 7), NUMBER);
        for (int name : new int[] {-1, 16, MIN, MAX}) {
            Check.due("convert(0, " + name + ")", x.convert(0, name), NUMBER);
        }
        Check.due("count(1)", x.count(1), 8);

        Check.sentence("Promise 21", "FULL: there are 150 OBJECTS");
        x = new Book();
        x.clazz(0, -1, 0, 0);
        x.makeObjects(0, 1, 149);
        Check.due("the 150th", x.convert(0, 0), 149);
        Check.due("none more", x.convert(0, 0), FULL);
        Check.due("count(1)", x.count(1), 150);
    }

    // ---- promises 22, 23

    private static void places() {
        Check.sentence("Promise 22", "is kept in place 0 or 1: true; false for another place");
        Book x = new Book();
        for (int place : new int[] {-1, 2, MIN, MAX}) {
            Check.due("keep(" + place + ")", x.keep(place), false);
        }
        Check.due("back(0)", x.back(0), false);
        Check.due("keep(1)", x.keep(1), true);
        Check.due("back(0), the other place", x.back(0), false);
        Check.due("back(1), an empty book", x.back(1), true);
        Check.due("keep(0)", x.keep(0), true);
        Check.due("back(0)", x.back(0), true);

        Check.sentence("Promise 23", "false if nothing is, or for another place");
        for (int place : new int[] {-1, 2, MIN, MAX}) {
            Check.due("back(" + place + ")", x.back(place), false);
        }
        Check.due("back(0) of a new book", new Book().back(0), false);
        Check.due("back(1) of a new book", new Book().back(1), false);

        Check.sentence("Promise 23", "What is kept in a place is again (it stays kept)");
        x = new Book();
        x.keep(0);
        x.value(0, 0, 1);
        x.keep(1);
        for (int i = 0; i < 3; i++) {
            x.value(1, 0, 2);
            Check.due("back(0)", x.back(0), true);
            Check.due("count(2)", x.count(2), 0);
            Check.due("newest(0)", x.newest(0), -1);
            x.value(2, 0, 2);
            Check.due("back(1)", x.back(1), true);
            Check.due("count(2)", x.count(2), 1);
            Check.due("newest(0)", x.newest(0), 0);
        }
        x.value(3, 0, 3);
        Check.due("keep(0), over what was", x.keep(0), true);
        x.back(1);
        x.back(0);
        Check.due("count(2)", x.count(2), 2);
    }

    private static void images() {
        Check.sentence("Promise 22", "All that there is is kept");
        Book x = bookOfObjects();
        x.clazz(6, -1, 0, 0, 0, 1, 5, 0);
        x.value(7, 0, 7, 15);
        x.forget(3);
        x.keep(0);
        // each thing becomes another one
        x.retype(2, 2, 0, 15);
        x.retype(6, 1, 2, 5, 0);
        x.value(8, 2, 6);
        x.value(9, 1, 2, 0, 77, 6, 0);
        x.call(0, 0, 1);
        x.value(3, 0, 5);
        x.forget(0);
        x.convert(0, 1);
        x.clazz(0, -1, 0, 0);
        Check.due("back(0)", x.back(0), true);
        Check.due("EDITIONS", x.count(0), 7);
        Check.due("OBJECTS", x.count(1), 2);
        Check.due("CELLS", x.count(2), 7);
        Check.due("the newest ones", x.newest(2), 2);
        Check.due("FORGOTTEN ones", x.newest(3), -1);
        Check.due("those FORGOTTEN since", x.newest(0), 0);
        Check.due("those that weren't", x.newest(8), -1);
        Check.due("what FIELDS had", x.field(0, 0, 1), 10);
        Check.due("an OBJECT in a FIELD", x.field(0, 5, 0), 1);
        Check.due("that START wasn't begun", x.edition(5, 6), 0);
        Check.due("OUTCOMES", x.of(6, 0), 0);
        Check.due("TEXTS, by their length", x.of(2, 8), 2);
        Check.due("what was written", x.written(6, 0, 1), 7);
        Check.due("how much was", x.of(2, 3), 0);
        Check.due("what it LEANS on", x.leans(2, 0), 1);
        Check.due("how many of these", x.of(6, 7), 0);
        Check.due("what is STALE", x.stale(4), true);
        Check.due("what isn't", x.stale(2), false);
        Check.due("TEXTS, by their ints", x.rerun(6), 0);
        Check.due("the VALUE", x.edition(7, 6), 7);
        Check.due("EDITIONS go on from there", x.count(0), 8);
        Check.due("METHODS", x.call(0, 4, 0), 0);

        Check.sentence("Promise 22", "but the tape, came() and what is kept");
        x = bookOfObjects();
        x.type(0, 1);
        x.call(0, 0, 5);
        x.keep(0);
        x.value(6, 0, 1);
        x.keep(1);
        x.type(0, 9, 15);
        x.call(0, 4, 5);
        x.back(0);
        Check.due("the tape", x.count(3), 3);
        came(x, 1, 0, 0, 1);
        Check.due("cell, by that tape", x.cell(7, 0), 5);
        Check.due("its VALUE", x.edition(5, 6), 9);
        Check.due("back(1), kept since", x.back(1), true);
        Check.due("newest(6)", x.newest(6), 5);
        Check.due("newest(7)", x.newest(7), -1);
        came(x, 1, 0, 0, 1);

        Check.sentence("Promise 23", "What is kept is again (numbers that come again have nothing of what they were)");
        x = new Book();
        x.clazz(0, -1, 0, 0);
        x.keep(0);
        x.clazz(1, -1, 4, 0, 1, 1, 2, 2, 3, 9, 4, 3, 0, 1, 16, 1, 1, 16, 4, 1, 16, 0, 0, 5, 0);
        x.value(2, 0, 6, 15, 15, 2, 1, 18);
        x.convert(0, 1);
        Check.due("none to be carried over", x.count(1), 0);
        x.value(3, 2, 0);
        x.convert(0, 1);
        Check.due("edition(1, 6)", x.edition(1, 6), 2);
        Check.due("of(2, 1)", x.of(2, 1), 6);
        x.back(0);
        Check.due("a CLASS again", x.clazz(1, -1, 0, 0), 1);
        int[] wants = {1, 0, 1, 1, 1, -1, 0, 0};
        for (int what = 0; what < 8; what++) {
            Check.due("edition(1, " + what + ")", x.edition(1, what), wants[what]);
        }
        Check.due("a VALUE again", x.value(2, 2, 1, 2, 1, 18), 2);
        int[] wantsOf = {0, 0, 3, 0, 2, 2, 0, 1, 5};
        for (int what = 0; what < 9; what++) {
            Check.due("of(2, " + what + ")", x.of(2, what), wantsOf[what]);
        }
        for (int f = 0; f < 10; f++) {
            Check.due("field(0, " + f + ", 0)", x.field(0, f, 0), -1);
            Check.due("field(1, " + f + ", 0)", x.field(1, f, 0), -1);
            Check.due("field(1, " + f + ", 1)", x.field(1, f, 1), 0);
        }
        for (int m = 0; m < 5; m++) {
            Check.due("call(0, " + m + ", 0)", x.call(0, m, 0), 1);
        }
        Check.due("written(2, 0, 1)", x.written(2, 0, 1), 0);

        Check.sentence("Promise 22", "(a full book is kept, and a small one comes back)");
        x = new Book();
        x.clazz(0, -1, 1, 3, 33, 0);
        x.keep(1);
        x.makeObjects(0, 1, 150);
        x.makeEditions(0, 150);
        Check.due("keep(0)", x.keep(0), true);
        Check.due("back(1)", x.back(1), true);
        Check.due("count(0)", x.count(0), 1);
        Check.due("count(1)", x.count(1), 0);
        Check.due("a new OBJECT", x.value(1, 2, 0), 1);
        Check.due("its FIELD", x.field(0, 3, 1), 33);
        Check.due("back(0)", x.back(0), true);
        Check.due("count(0)", x.count(0), 150);
        Check.due("count(1)", x.count(1), 150);
        Check.due("field(149, 3, 1)", x.field(149, 3, 1), 33);
        Check.due("edition(149, 2)", x.edition(149, 2), 0);
        Check.due("rerun(0)", x.rerun(0), FULL);
    }

    public static void main(String[] args) {
        newObject();
        tape();
        cell();
        redo();
        rerun();
        of();
        leans();
        written();
        countAndNewest();
        edition();
        objects();
        callAndCame();
        convert();
        places();
        images();
        Check.end();
    }
}
