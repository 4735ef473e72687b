/** Terms 2, sentence by sentence: RUNS, EDITIONS, OBJECTS, STEPS, FAILURES and STARTS. */
public final class RunEdgeTest {
    private static final int SORT = 1;
    private static final int ZERO = 2;
    private static final int FIELD = 3;
    private static final int METHOD = 4;
    private static final int EDITION = 5;
    private static final int START = 6;
    private static final int DEEP = 7;
    private static final int FULL = 8;

    private static void well(Book x, int c, int steps) {
        Check.due("of(" + c + ", 0)", x.of(c, 0), 0);
        Check.due("of(" + c + ", 1)", x.of(c, 1), 0);
        Check.due("of(" + c + ", 2)", x.of(c, 2), steps);
    }

    private static void failed(Book x, int c, int kind, int steps) {
        Check.due("of(" + c + ", 0)", x.of(c, 0), 1);
        Check.due("of(" + c + ", 1)", x.of(c, 1), kind);
        Check.due("of(" + c + ", 2)", x.of(c, 2), steps);
        Check.due("of(" + c + ", 4)", x.of(c, 4), -1);
    }

    private static void spent(Book x, int c) {
        Check.due("of(" + c + ", 0)", x.of(c, 0), 2);
        Check.due("of(" + c + ", 1)", x.of(c, 1), 0);
        Check.due("of(" + c + ", 2)", x.of(c, 2), 1000);
        Check.due("of(" + c + ", 4)", x.of(c, 4), -1);
    }

    private static void state(Book x, int e, int want) {
        Check.due("edition(" + e + ", 6)", x.edition(e, 6), want);
    }

    // ---- runs

    private static void cells() {
        Check.sentence("Terms 2", "CELLS are numbered 0 .. 39, as they come");
        Book x = new Book();
        for (int c = 0; c < 40; c++) {
            Check.due("cell", x.value(c % 16, 0, c), c);
        }
        Check.due("a 41st", x.value(0, 0, 0), EditionBook.FULL);
        Check.due("of(39, 5)", x.of(39, 5), 39 % 16);
        Check.due("of(40, 5)", x.of(40, 5), -3);

        Check.sentence("Terms 2", "each has a NAME and a SORT, which stay");
        x = new Book();
        x.value(15, 0, 1);
        x.clazz(3, -1, 0, 0);
        Check.due("redo of a VALUE by a CLASS's TEXT", x.retype(0, -1, 0, 0), -100);
        Check.due("redo of a CLASS by a VALUE's TEXT", x.retype(1, 0, 2), -100);
        x.retype(0, 0, 2);
        x.retype(1, -1, 1, 0, 0, 0);
        Check.due("of(0, 5)", x.of(0, 5), 15);
        Check.due("of(0, 6)", x.of(0, 6), 0);
        Check.due("of(1, 5)", x.of(1, 5), 3);
        Check.due("of(1, 6)", x.of(1, 6), 1);
    }

    private static void rightAsTheyAreThen() {
        Check.sentence("Terms 2", "its TEXT must be RIGHT by the newest EDITIONS as they are then");
        Book x = new Book();
        x.clazz(0, -1, 0, 0);
        x.value(1, 2, 0);
        Check.due("a VALUE of NAME 0", x.value(0, 0, 5), 2);
        Check.due("it is no CLASS any more", x.rerun(1), -100);
        Check.due("a CLASS again", x.rerun(0), 0);
        Check.due("and RIGHT again", x.rerun(1), 0);
        Check.due("classOf(1)", x.classOf(1), 3);
        x.forget(0);
        Check.due("FORGOTTEN", x.rerun(1), -100);

        Check.sentence("Terms 2", "(else nothing happens but that its FAULT is told)");
        x = new Book();
        x.value(0, 0, 5);
        x.value(1, 0, 6, 15, 1, 0, 18);
        x.forget(0);
        Check.due("rerun(1)", x.rerun(1), -103);
        int[] wants = {0, 0, 4, 1, 1, 1, 0, 1, 6};
        for (int what = 0; what < wants.length; what++) {
            Check.due("of(1, " + what + ")", x.of(1, what), wants[what]);
        }
        Check.due("leans(1, 0)", x.leans(1, 0), 0);
        Check.due("written(1, 0, 1)", x.written(1, 0, 1), 6);
        Check.due("newest(1)", x.newest(1), 1);
        Check.due("count(0)", x.count(0), 2);
    }

    private static void whatItLeansOn() {
        Check.sentence("Terms 2", "The EDITIONS that these names stood for are those that it LEANS on (the parent, too)");
        Book x = new Book();
        x.value(0, 0, 5);
        x.clazz(1, -1, 0, 0);
        x.clazz(2, -1, 0, 0);
        x.value(3, 0, 6);
        x.value(4, 0, 7);
        x.clazz(5, 1, 0, 2, 0, 2, 1, 3, 1, 3, 17, 3, 2, 1, 0);
        Check.due("of(5, 7)", x.of(5, 7), 4);
        for (int i = 0; i < 4; i++) {
            Check.due("leans(5, " + i + ")", x.leans(5, i), i);
        }
        Check.due("leans(5, 4)", x.leans(5, 4), -1);
        x.clazz(6, 2, 0, 0);
        Check.due("the parent alone", x.of(6, 7), 1);
        Check.due("leans(6, 0)", x.leans(6, 0), 2);
        x.clazz(7, 2, 0, 0, 0, 4, 3, 2);
        Check.due("one EDITION once, and an int is no NAME", x.of(7, 7), 1);
        Check.due("leans(7, 0)", x.leans(7, 0), 2);
        x.value(8, 0, 0, 4, 1);
        Check.due("also in a RUN that FAILS", x.of(8, 0), 1);
        Check.due("leans(8, 0)", x.leans(8, 0), 1);
        Check.due("leans(8, 1)", x.leans(8, 1), -1);

        Check.sentence("Terms 2", "its CODE goes on meaning these");
        x = new Book();
        x.value(0, 0, 5);
        x.clazz(1, -1, 1, 0, 10, 0);
        x.clazz(2, 1, 0, 3, 0, 2, 1, 0, 1, 2, 2, 1, 2, 3, 16, 3, 1, 1, 0, 15);
        x.value(3, 2, 2);
        Check.due("the START's", x.written(3, 0, 1), 5);
        x.retype(0, 0, 6);
        x.retype(1, -1, 1, 0, 20, 0);
        x.forget(0);
        x.call(0, 0, 0);
        Check.due("the older VALUE", x.came(1), 5);
        x.call(0, 1, 0);
        Check.due("an OBJECT of the older CLASS", x.classOf(x.came(1)), 1);
        x.call(0, 2, 0);
        Check.due("below the older CLASS", x.came(1), 1);
        Check.due("the older parent's FIELD", x.field(0, 0, 1), 10);
    }

    private static void newEditions() {
        Check.sentence("Terms 2", "A CLASS has a new EDITION then, and the OUTCOME is WELL");
        Book x = new Book();
        x.clazz(0, -1, 0, 0, 0, 1, 0, 0, 11);
        well(x, 0, 0);
        Check.due("of(0, 4)", x.of(0, 4), 0);
        Check.due("rerun(0)", x.rerun(0), 0);
        Check.due("of(0, 4)", x.of(0, 4), 1);
        Check.due("its START isn't worked by that", x.edition(1, 6), 0);

        Check.sentence("Terms 2", "else FAILED or SPENT, and there is none");
        x = bookOfSteps();
        x.value(5, 0, 1);
        int had = x.count(0);
        Check.due("FAILED", x.retype(2, 0, 1, 0, 0, 11), 1);
        Check.due("count(0)", x.count(0), had);
        Check.due("newest(5)", x.newest(5), 2);
        Check.due("of(2, 4)", x.of(2, 4), -1);
        Check.due("SPENT", x.retype(2, codeOf(1001)), 2);
        Check.due("count(0)", x.count(0), had);
        Check.due("newest(5)", x.newest(5), 2);
        Check.due("of(2, 4)", x.of(2, 4), -1);
        x.value(6, 0, 0, 5, 0);
        Check.due("none at all", x.newest(6), -1);

        Check.sentence("Terms 2", "EDITIONS are numbered 0 .. 149, as they come, over all NAMES");
        x = new Book();
        x.value(0, 0, 1);
        x.clazz(1, -1, 0, 0);
        for (int e = 2; e < 150; e++) {
            x.rerun(e % 2);
            Check.due("newest(" + e % 2 + ")", x.newest(e % 2), e);
        }
        Check.due("count(0)", x.count(0), 150);
        Check.due("one more", x.rerun(0), EditionBook.FULL);
        Check.due("edition(149, 0)", x.edition(149, 0), 1);
        Check.due("edition(149, 1)", x.edition(149, 1), 74);
        Check.due("edition(150, 0)", x.edition(150, 0), -3);

        Check.sentence("Terms 2", "the newest one of a NAME is the last one, unless the NAME is FORGOTTEN since");
        x = new Book();
        x.value(0, 0, 1);
        x.value(0, 0, 2);
        Check.due("newest(0)", x.newest(0), 1);
        x.rerun(0);
        Check.due("newest(0)", x.newest(0), 2);
        x.forget(0);
        Check.due("newest(0)", x.newest(0), -1);
        Check.due("edition(2, 4)", x.edition(2, 4), 0);
        x.value(1, 0, 3);
        Check.due("another NAME's changes nothing", x.newest(0), -1);
        x.rerun(1);
        Check.due("one since then", x.newest(0), 4);
        Check.due("edition(4, 4)", x.edition(4, 4), 1);
    }

    // ---- objects

    private static void objects() {
        Check.sentence("Terms 2", "OBJECTS are numbered 0 .. 149, as they come");
        Book x = new Book();
        x.clazz(0, -1, 0, 0);
        x.makeObjects(0, 1, 149);
        int c = x.value(2, 2, 0);
        Check.due("the 150th", x.edition(x.newest(2), 6), 149);
        Check.due("classOf(149)", x.classOf(149), 0);
        Check.due("classOf(150)", x.classOf(150), -1);
        x.rerun(c);
        failed(x, c, FULL, 1);
        Check.due("count(1)", x.count(1), 150);

        Check.sentence("Terms 2", "with the FIELDS of that and of its parents (as EDITIONS), one for each name");
        x = new Book();
        x.clazz(0, -1, 4, 0, 10, 1, 11, 2, 12, 3, 13, 0);
        x.clazz(1, 0, 4, 4, 24, 5, 25, 6, 26, 7, 27, 0);
        x.clazz(2, 1, 3, 8, 38, 9, 39, 0, 30, 0);
        x.value(3, 2, 2, 2, 1, 18);
        int[] lower = {30, 11, 12, 13, 24, 25, 26, 27, 38, 39};
        for (int f = 0; f < 10; f++) {
            Check.due("field(0, " + f + ", 0)", x.field(0, f, 0), 0);
            Check.due("field(0, " + f + ", 1)", x.field(0, f, 1), lower[f]);
        }
        Check.due("field(1, 8, 0), below it alone", x.field(1, 8, 0), -1);
        x.value(4, 1, 3, 5, 8);
        failed(x, 4, FIELD, 2);

        Check.sentence("Terms 2", "each has the first int of the nearest CLASS that names it");
        Check.due("field(0, 0, 1)", x.field(0, 0, 1), 30);
        Check.due("field(1, 0, 1)", x.field(1, 0, 1), 10);

        Check.sentence("Terms 2", "It is of an EDITION or below it if its CLASS is that, or a parent, their parents "
            + "and so on");
        Check.due("is(0, 2)", x.is(0, 2), true);
        Check.due("is(0, 1)", x.is(0, 1), true);
        Check.due("is(0, 0)", x.is(0, 0), true);
        Check.due("is(1, 2)", x.is(1, 2), false);
        Check.due("is(1, 0)", x.is(1, 0), true);
        x.rerun(0);
        Check.due("of no newer EDITION", x.is(0, x.newest(0)), false);
        // as many parents as there may be: the one that FAILS leaves an OBJECT, and takes no EDITION
        x = new Book();
        x.clazz(0, -1, 1, 9, 77, 1, 4, 1, 17);
        x.value(1, 2, 0, 5, 0);
        x.retype(0, 0, 0, 0);
        x.makeEditions(0, 150);
        Check.due("convert(0, 0)", x.convert(0, 0), 1);
        Check.due("classOf(1)", x.classOf(1), 149);
        for (int e = 0; e < 150; e++) {
            Check.due("is(1, " + e + ")", x.is(1, e), true);
            Check.due("is(0, " + e + ")", x.is(0, e), e == 0);
        }
        Check.due("their FIELD", x.field(1, 9, 1), 77);
        Check.due("their METHOD", x.call(1, 4, 3), 0);
        Check.due("came(1)", x.came(1), 3);
        // and as many STARTS
        x = new Book();
        x.clazz(0, -1, 0, 0, 0, 5, 15);
        x.retype(0, 0, 0, 0, 0, 6, 15);
        x.makeEditions(0, 149);
        x.value(1, 2, 0);
        well(x, 1, 1 + 2 * 149);
        Check.due("of(1, 3)", x.of(1, 3), 149);
        Check.due("from the top on", x.written(1, 0, 1), 5);
        Check.due("written(1, 1, 1)", x.written(1, 1, 1), 6);

        Check.sentence("Terms 2", "METHOD m of it is that of the nearest of these");
        x = new Book();
        x.clazz(0, -1, 0, 3, 0, 2, 0, 10, 1, 2, 0, 11, 2, 1, 16);
        x.clazz(1, 0, 0, 2, 1, 2, 0, 21, 3, 2, 0, 23);
        x.clazz(2, 1, 0, 1, 3, 2, 0, 33);
        x.value(3, 2, 2, 2, 1, 18);
        int[] wants = {10, 21, 0, 33};
        for (int m = 0; m < 4; m++) {
            Check.due("call(0, " + m + ", 0)", x.call(0, m, 0), 0);
            Check.due("came(1)", x.came(1), wants[m]);
        }
        Check.due("call(0, 4, 0)", x.call(0, 4, 0), 1);
        x.call(1, 3, 0);
        Check.due("call(1, 3, 0)", x.came(1), 23);
        x.call(1, 2, 0);
        Check.due("16 puts the OBJECT itself", x.came(1), 1);
    }

    // ---- steps

    /** NAME 0 a CLASS whose METHOD 0 makes 139 STEPS, 1 its OBJECT (number 0). */
    private static Book bookOfSteps() {
        Book x = new Book();
        int[] ends = Rows.times(4, 18);
        x.clazz(0, Rows.join(Rows.row(-1, 0, 3, 0, 24), Rows.times(5, 16, 17, 7, 1), ends,
            Rows.row(1, 24), Rows.times(5, 16, 17, 7, 2), ends, Rows.row(2, 1, 17)));
        x.value(1, 2, 0);
        return x;
    }

    /** CODE of so many STEPS, 988 or some more: those above 988 write, and it ends with 6. */
    private static int[] codeOf(int steps) {
        return Rows.join(Rows.times(7, 1, 1), Rows.row(0, 6), Rows.times(7, 7, 0), Rows.times(steps - 988, 15));
    }

    private static void steps() {
        Check.sentence("Terms 2", "when a CELL would make the 1,001st, it is SPENT");
        Book x = bookOfSteps();
        x.value(2, codeOf(1000));
        well(x, 2, 1000);
        Check.due("its VALUE", x.edition(x.newest(2), 6), 6);
        Check.due("of(2, 3)", x.of(2, 3), 12);
        x.value(3, codeOf(1001));
        spent(x, 3);
        Check.due("the 1,001st isn't made", x.of(3, 3), 12);
        Check.due("what was written stays", x.written(3, 11, 1), 6);
        x.value(3, codeOf(1010));
        spent(x, 4);

        Check.sentence("Terms 2", "each act is a STEP, also one that FAILS");
        x = bookOfSteps();
        x.value(2, 0, 1, 5, 0);
        failed(x, 2, SORT, 2);
        x.value(2, Rows.join(codeOf(999), Rows.row(5, 0)));
        failed(x, 3, SORT, 1000);
        x.value(2, Rows.join(codeOf(1000), Rows.row(5, 0)));
        spent(x, 4);

        Check.sentence("Terms 2", "(or a call by hand) would make the 1,001st");
        for (int by = 1000; by <= 1001; by++) {
            x = bookOfSteps();
            int[] code = codeOf(by);
            x.clazz(2, Rows.join(Rows.row(-1, 0, 1, 4, code.length), code));
            x.value(3, 2, 2);
            Check.due("call(1, 4, 0)", x.call(1, 4, 0), by == 1000 ? 0 : 2);
            Check.due("came(0)", x.came(0), 0);
            Check.due("came(1)", x.came(1), by == 1000 ? 6 : 0);
            Check.due("came(2)", x.came(2), 0);
            Check.due("came(3)", x.came(3), 1000);
        }

        Check.sentence("Terms 2", "its STEPS are counted from 0 on");
        x = bookOfSteps();
        x.value(2, codeOf(1000));
        Check.due("rerun", x.rerun(2), 0);
        well(x, 2, 1000);
        Check.due("call(0, 0, 6)", x.call(0, 0, 6), 0);
        Check.due("came(3)", x.came(3), 139);
        Check.due("call(0, 0, 6)", x.call(0, 0, 6), 0);
        Check.due("came(3)", x.came(3), 139);

        Check.sentence("Terms 2", "What METHODS and STARTS write is written by the CELL that is RUN");
        x = new Book();
        x.clazz(0, -1, 0, 1, 0, 2, 17, 15, 0, 7, 15);
        x.value(1, 2, 0, 0, 8, 7, 0, 0, 9, 15, 18);
        Check.due("of(1, 3)", x.of(1, 3), 3);
        Check.due("of(0, 3)", x.of(0, 3), 0);
        for (int i = 0; i < 3; i++) {
            Check.due("written(1, " + i + ", 1)", x.written(1, i, 1), 7 + i);
            Check.due("written(0, " + i + ", 1)", x.written(0, i, 1), 0);
        }
        x.value(2, 2, 0);
        Check.due("a START is worked once", x.of(2, 3), 0);
    }

    // ---- failures

    /**
     * NAME 0 a CLASS with FIELD 0, 1 its OBJECT (number 0), 2 a CLASS whose START FAILS, 3 one whose METHOD 0
     * calls itself, 4 its OBJECT (number 1), 5 a CLASS.
     */
    private static Book bookOfFailures() {
        Book x = new Book();
        x.clazz(0, -1, 1, 0, 10, 0);
        x.value(1, 2, 0);
        x.clazz(2, -1, 0, 0, 0, 1, 0, 0, 11);
        x.clazz(3, -1, 0, 1, 0, 4, 16, 17, 7, 0);
        x.value(4, 2, 3);
        x.clazz(5, -1, 0, 0);
        return x;
    }

    /** For each kind CODE that ends by it (FULL, where there are 150 OBJECTS), and in how many STEPS. */
    private static final int[][] FAILING = {
        {}, {0, 1, 5, 0}, {0, 1, 0, 0, 11}, {1, 1, 5, 1}, {1, 1, 0, 1, 7, 0}, {1, 1, 4, 5}, {2, 2},
        {1, 4, 0, 1, 7, 0}, {2, 5}};
    private static final int[] FAILING_STEPS = {0, 2, 3, 2, 3, 2, 4, 63, 1};

    private static void kindsOfFailures() {
        Check.sentence("Terms 2", "FAILURES: 1 SORT, 2 ZERO, 3 FIELD, 4 METHOD, 5 EDITION, 6 START, 7 DEEP, 8 FULL");
        for (int kind = SORT; kind <= FULL; kind++) {
            Book x = bookOfFailures();
            if (kind == FULL) {
                x.makeObjects(5, 7, 150);
            }
            int c = x.value(6, FAILING[kind]);
            failed(x, c, kind, FAILING_STEPS[kind]);
        }

        Check.sentence("Promise 19", "1 it FAILED (by each kind)");
        for (int kind = SORT; kind <= FULL; kind++) {
            Book x = bookOfFailures();
            int[] code = FAILING[kind];
            x.clazz(6, Rows.join(Rows.row(-1, 0, 1, 4, code.length), code));
            x.value(7, 2, 6);
            if (kind == FULL) {
                x.makeObjects(5, 8, 150);
            }
            Check.due("call(2, 4, 0)", x.call(2, 4, 0), 1);
            Check.due("came(2)", x.came(2), kind);
            // a METHOD by hand is on the way itself: one act that calls less comes ahead of DEEP
            Check.due("came(3)", x.came(3), kind == DEEP ? 3 + 19 * 3 : FAILING_STEPS[kind]);
        }

        Check.sentence("Terms 2", "1 SORT (an OBJECT where an int is taken, or the other way round)");
        int[][] codes = {
            {1, 1, 0, 1, 8}, {0, 1, 1, 1, 8}, {1, 1, 0, 1, 9}, {0, 1, 1, 1, 9}, {1, 1, 0, 1, 10}, {0, 1, 1, 1, 10},
            {1, 1, 0, 1, 11}, {0, 1, 1, 1, 11}, {1, 1, 0, 1, 12}, {0, 1, 1, 1, 12}, {1, 1, 1, 1, 12},
            {0, 1, 0, 1, 6, 0}, {0, 1, 1, 1, 6, 0}, {0, 1, 0, 1, 7, 0}, {0, 1, 1, 1, 7, 0}};
        for (int[] code : codes) {
            Book x = bookOfFailures();
            failed(x, x.value(6, code), SORT, 3);
        }
        Book x = bookOfFailures();
        failed(x, x.value(6, 1, 1, 0, 1, 0, 1, 14), SORT, 4);
        x = bookOfFailures();
        failed(x, x.value(6, 0, 0, 5, 0), SORT, 2);

        Check.sentence("Terms 2", "3 FIELD (it has none of that name), also where one is to get a VALUE");
        x = bookOfFailures();
        failed(x, x.value(6, 1, 1, 0, 5, 6, 9), FIELD, 3);
        Check.due("field(0, 9, 0)", x.field(0, 9, 0), -1);
    }

    private static void severalInOneAct() {
        Check.sentence("Terms 2", "Of several in one act the first is told: SORT, then the others");
        int[][] codes = {
            {1, 1, 0, 0, 11}, {0, 0, 5, 9}, {0, 0, 0, 0, 6, 9}, {0, 0, 0, 0, 7, 4}, {0, 0, 1, 1, 7, 4}};
        for (int[] code : codes) {
            Book x = bookOfFailures();
            failed(x, x.value(6, code), SORT, (code.length + 1) / 2);
        }

        Check.sentence("Terms 2", "then the others: METHOD where there is none, though one would be DEEP");
        Book x = bookOfDepth(Rows.row(16, 17, 7, 4));
        Check.due("call(1, 0, 1)", x.call(1, 0, 1), 1);
        Check.due("came(2)", x.came(2), METHOD);

        Check.sentence("Terms 2", "then the others: START of one that failed, though there are 150 OBJECTS, or it is DEEP");
        x = bookOfFailures();
        x.value(6, FAILING[START]);
        x.makeObjects(5, 7, 150);
        int c = x.value(6, 2, 2);
        failed(x, c, START, 1);
        x = bookOfFailures();
        x.makeObjects(5, 7, 150);
        c = x.value(6, 2, 2);
        failed(x, c, START, 4);
        x = bookOfDepth(Rows.row(2, 6), 0, 0, 5, 0);
        x.value(7, 2, 6);
        Check.due("call(1, 0, 1)", x.call(1, 0, 1), 1);
        Check.due("came(2)", x.came(2), START);

        Check.sentence("Terms 2", "Behind that: FULL");
        x = bookOfDepth(Rows.row(2, 6), 0, 0);
        x.makeObjects(2, 7, 150);
        Check.due("DEEP first", x.call(1, 0, 1), 1);
        Check.due("came(2)", x.came(2), DEEP);
        state(x, 0, 0);
        Check.due("FULL where it isn't DEEP", x.call(1, 0, 2), 1);
        Check.due("came(2)", x.came(2), FULL);
        state(x, 0, 1);
        x = bookOfFailures();
        c = x.clazz(6, -1, 0, 0, 0, 3, 15);
        x.makeObjects(5, 7, 150);
        int e = x.newest(6);
        c = x.value(8, 2, 6);
        failed(x, c, FULL, 3);
        Check.due("its START was worked", x.of(c, 3), 1);
        state(x, e, 1);
        Check.due("edition(e, 7)", x.edition(e, 7), 0);
        x.rerun(c);
        failed(x, c, FULL, 1);
    }

    private static void whatStays() {
        Check.sentence("Terms 2", "An act that FAILS ends all; what was written, and what FIELDS got, stays");
        Book x = bookOfFailures();
        int c = x.value(6, 1, 1, 0, 77, 15, 6, 0, 0, 0, 11, 15);
        failed(x, c, ZERO, 6);
        Check.due("of(c, 3)", x.of(c, 3), 1);
        Check.due("written(c, 0, 1)", x.written(c, 0, 1), 77);
        Check.due("field(0, 0, 1)", x.field(0, 0, 1), 77);
        // also where it FAILS within a METHOD, and the OBJECTS that came stay, too
        x.clazz(7, -1, 0, 1, 0, 5, 17, 2, 0, 6, 0);
        int had = x.count(1);
        c = x.value(8, 2, 7, 0, 5, 15, 7, 0, 15);
        failed(x, c, SORT, 7);
        Check.due("of(c, 3)", x.of(c, 3), 1);
        Check.due("count(1)", x.count(1), had + 2);

        Check.sentence("Terms 2", "An act that FAILS ends all (nothing on a pile is left for what comes later)");
        x = new Book();
        int[] failing = Rows.join(Rows.times(19, 0, 1), Rows.row(5, 0), Rows.times(18, 18));
        Check.due("cell", x.value(0, failing), 0);
        for (int i = 0; i < 400; i++) {
            x.rerun(0);
        }
        failed(x, 0, SORT, 20);
        Check.due("cell", x.value(1, 0, 3, 0, 4, 9), 1);
        well(x, 1, 3);
        Check.due("its VALUE", x.edition(0, 6), -1);
    }

    // ---- depth

    /**
     * NAME 6 a CLASS with a START of the told ints (or none), 2 a CLASS whose METHOD 0 has the told CODE, 3 its
     * OBJECT (number 0), 4 a CLASS whose METHOD 0, with argument a up to 19, calls itself with a + 1, and behind
     * that METHOD 0 of OBJECT 0; 5 its OBJECT (number 1). So METHOD 0 of OBJECT 0 is worked within 20 - a others.
     */
    private static Book bookOfDepth(int[] deepest, int... start) {
        Book x = new Book();
        x.clazz(6, Rows.join(Rows.row(-1, 0, 0), start));
        x.clazz(2, Rows.join(Rows.row(-1, 0, 1, 0, deepest.length), deepest));
        x.value(3, 2, 2);
        x.clazz(4, -1, 0, 1, 0, 14, 17, 0, 19, 12, 16, 1, 3, 14, 17, 0, 1, 8, 7, 0);
        x.value(5, 2, 4);
        return x;
    }

    private static void depthOfMethods() {
        Check.sentence("Terms 2", "7 DEEP (a METHOD would be worked within 20 others that are on the way)");
        Book x = bookOfDepth(Rows.row(17));
        Check.due("within 20, by hand", x.call(1, 0, 0), 1);
        Check.due("came(2)", x.came(2), DEEP);
        Check.due("came(3)", x.came(3), 200);
        Check.due("within 19, by hand", x.call(1, 0, 1), 0);
        Check.due("came(1)", x.came(1), 20);
        Check.due("came(3)", x.came(3), 191);
        failed(x, x.value(7, 1, 5, 0, 0, 7, 0), DEEP, 203);
        well(x, x.value(7, 1, 5, 0, 1, 7, 0), 194);
        // METHODS behind one another aren't within one another
        well(x, x.value(7, 1, 5, 1, 5, 0, 1, 7, 0, 0, 1, 18, 7, 0), 2 + 1 + 1 + 191 + 2 + 1 + 191);

        Check.sentence("Terms 2", "that are on the way (what each has on its pile is there when it goes on)");
        x = new Book();
        x.clazz(2, -1, 0, 1, 0, 1, 17);
        x.value(3, 2, 2);
        // METHOD 0 with argument a up to 18 puts 1 to 10 ahead of its call, and adds them up behind it
        x.clazz(4, Rows.join(Rows.row(-1, 0, 1, 0, 44), oneToTen(),
            Rows.row(17, 0, 18, 12, 16, 1, 3, 14, 17, 0, 1, 8, 7, 0), Rows.times(10, 8)));
        x.value(5, 2, 4);
        Check.due("20 METHODS", x.call(1, 0, 0), 0);
        Check.due("came(1)", x.came(1), 19 + 19 * 55);
        Check.due("came(3)", x.came(3), 19 * 30 + 1);
    }

    private static int[] oneToTen() {
        int[] code = new int[20];
        for (int i = 0; i < 10; i++) {
            code[2 * i + 1] = i + 1;
        }
        return code;
    }

    private static void depthOfStarts() {
        Check.sentence("Terms 2", "7 DEEP (a START would be worked within 20 others that are on the way)");
        Book x = bookOfDepth(Rows.row(2, 6), 0, 1);
        Check.due("within 20", x.call(1, 0, 1), 1);
        Check.due("came(2)", x.came(2), DEEP);
        Check.due("came(3)", x.came(3), 191);
        Check.due("count(1)", x.count(1), 2);

        Check.sentence("Terms 2", "where that would be DEEP, it isn't begun, and the act's FAILURE is DEEP");
        state(x, 0, 0);
        Check.due("within 19", x.call(1, 0, 2), 0);
        state(x, 0, 1);
        Check.due("came(3)", x.came(3), 182);
        Check.due("STARTED already", x.call(1, 0, 1), 0);
        // one without a START has none to be worked
        x = bookOfDepth(Rows.row(2, 6));
        Check.due("within 20, without a START", x.call(1, 0, 1), 0);
        state(x, 0, 1);

        Check.sentence("Terms 2", "within 20 others (STARTS within STARTS)");
        x = new Book();
        int c = nestStarts(x, 20, 0, 1);
        well(x, c, 21);
        Check.due("the innermost comes first", x.classOf(0), 0);
        Check.due("count(1)", x.count(1), 20);
        state(x, 0, 1);
        state(x, 19, 1);
        x = new Book();
        c = nestStarts(x, 21, 0, 1);
        failed(x, c, START, 21);
        state(x, 0, 0);
        for (int e = 1; e < 21; e++) {
            state(x, e, 2);
        }
        Check.due("count(1)", x.count(1), 0);
        x = new Book();
        c = nestStarts(x, 21);
        well(x, c, 21);
        Check.due("the innermost has no START", x.count(1), 21);

        Check.sentence("Terms 2", "first its parent, likewise (STARTS of parents aren't within one another)");
        x = new Book();
        x.clazz(0, -1, 0, 0, 0, 0, 15);
        for (int e = 1; e < 25; e++) {
            x.retype(0, 0, 0, 0, 0, e, 15);
        }
        c = x.value(1, 2, 0);
        well(x, c, 51);
        Check.due("all are worked", x.of(c, 3), 25);
        for (int i = 0; i < 20; i++) {
            Check.due("written(c, " + i + ", 1), from the top on", x.written(c, i, 1), i);
        }
        for (int e = 0; e < 25; e++) {
            state(x, e, 1);
        }
    }

    /** CLASSES 0 .. many - 1, each of whose STARTS makes an OBJECT of the one ahead; the first has the told one. */
    private static int nestStarts(Book x, int many, int... firstStart) {
        x.clazz(0, Rows.join(Rows.row(-1, 0, 0), firstStart));
        x.clazz(1, -1, 0, 0, 2, 0);
        for (int e = 2; e < many; e++) {
            x.retype(e % 2, -1, 0, 0, 2, (e + 1) % 2);
        }
        return x.value(2, 2, (many + 1) % 2);
    }

    // ---- starts

    private static void starts() {
        Check.sentence("Terms 2", "its own START (if it has one) is WORKED (what it ends with is dropped)");
        Book x = new Book();
        x.clazz(0, -1, 0, 0, 0, 7);
        x.clazz(1, 0, 0, 0);
        x.clazz(2, 1, 0, 0, 0, 9);
        int c = x.value(3, 0, 1, 2, 2, 3, 2, 8);
        well(x, c, 6);
        Check.due("1 + 1", x.edition(x.newest(3), 6), 2);
        for (int e = 0; e < 3; e++) {
            state(x, e, 1);
        }

        Check.sentence("Terms 2", "To START a CLASS that wasn't begun (one that was isn't STARTED again)");
        well(x, x.value(4, 2, 2), 1);
        well(x, x.value(4, 2, 0), 1);
        x.clazz(5, 2, 0, 0, 0, 11);
        well(x, x.value(6, 2, 5), 2);
        // an EDITION that is new wasn't begun
        x.rerun(2);
        state(x, x.newest(2), 0);
        well(x, x.value(6, 2, 2), 2);

        Check.sentence("Terms 2", "if one of them ends by a FAILURE: FAILURE START, also each time later");
        x = bookOfFailures();
        x.clazz(6, 2, 0, 0, 0, 1);
        x.clazz(7, 6, 0, 0);
        c = x.value(8, 2, 7);
        failed(x, c, START, 4);
        state(x, 2, 2);
        x.rerun(c);
        failed(x, c, START, 1);
        failed(x, x.value(8, 2, 6), START, 1);
        failed(x, x.value(8, 2, 2), START, 1);
        Check.due("no OBJECTS of them", x.edition(2, 7) + x.edition(6, 7) + x.edition(7, 7), 0);

        Check.sentence("Terms 2", "One whose parent failed is not begun by that");
        state(x, 6, 0);
        state(x, 7, 0);
        // the parent had ended well, when the START below it failed
        x = bookOfFailures();
        x.clazz(6, 5, 0, 0, 1, 1, 5, 5);
        failed(x, x.value(8, 2, 6), START, 3);
        state(x, x.newest(5), 1);
        state(x, x.newest(6), 2);
        well(x, x.value(8, 2, 5), 1);
    }

    /** NAME 0 a CLASS, 1 its OBJECT, whose FIELD 0 gets one of 3, whose METHOD makes one of 2, whose START calls that. */
    private static void startedWhileBegun() {
        Check.sentence("Terms 2", "(One that is begun and not at its end counts as STARTED)");
        Book x = new Book();
        x.clazz(0, -1, 1, 0, 0, 0);
        x.value(1, 2, 0);
        x.clazz(2, -1, 0, 0, 1, 1, 5, 0, 0, 0, 7, 0, 15);
        x.clazz(3, -1, 0, 1, 0, 2, 2, 2);
        x.value(4, 1, 1, 2, 3, 6, 0);
        int c = x.value(5, 2, 2);
        well(x, c, 7);
        Check.due("the one in its own START", x.written(c, 0, 1), 2);
        Check.due("the one behind it", x.edition(x.newest(5), 6), 3);
        Check.due("edition(2, 7)", x.edition(2, 7), 2);
        state(x, 2, 1);
    }

    private static void failuresWithinStarts() {
        Check.sentence("Terms 2", "A FAILURE of any kind within a START lets all CLASSES fail whose START is on the way then; "
            + "the FAILURE told at the end is START");
        for (int kind = SORT; kind <= FULL; kind++) {
            Book x = bookOfFailures();
            x.clazz(6, Rows.join(Rows.row(-1, 0, 0), FAILING[kind]));
            x.clazz(7, -1, 0, 1, 0, 2, 2, 6);
            x.value(8, 2, 7);
            // an outer START, and a METHOD between the two
            x.clazz(9, -1, 0, 0, 1, 8, 0, 0, 7, 0);
            x.clazz(10, 9, 0, 0, 0, 1);
            if (kind == FULL) {
                x.makeObjects(5, 11, 150);
            }
            int inner = x.newest(6);
            int outer = x.newest(9);
            int c = x.value(12, 2, 10);
            Check.due("of(c, 0)", x.of(c, 0), 1);
            Check.due("of(c, 1)", x.of(c, 1), START);
            state(x, inner, 2);
            state(x, outer, 2);
            state(x, x.newest(10), 0);
            // those that aren't on the way don't fail
            state(x, x.newest(7), 1);
            Check.due("by hand", x.call(2, 0, 0), 1);
            Check.due("came(2)", x.came(2), START);
            Check.due("came(3)", x.came(3), 1);
        }

        Check.sentence("Terms 2", "A FAILURE behind a START lets none fail");
        Book x = new Book();
        x.clazz(0, -1, 0, 0, 0, 1);
        failed(x, x.value(1, 2, 0, 5, 0), FIELD, 3);
        state(x, 0, 1);
        well(x, x.value(1, 2, 0), 1);
    }

    private static void spentWithinStarts() {
        Check.sentence("Terms 2", "or the CELL being SPENT in it, lets all CLASSES fail whose START is on the way then");
        for (int by = 998; by <= 999; by++) {
            Book x = bookOfSteps();
            x.clazz(2, Rows.join(Rows.row(-1, 0, 0), codeOf(by)));
            x.clazz(3, -1, 0, 0, 2, 2);
            x.clazz(4, 3, 0, 0, 0, 1);
            int had = x.count(1);
            int c = x.value(5, 2, 3);
            if (by == 998) {
                well(x, c, 1000);
                Check.due("count(1)", x.count(1), had + 2);
            } else {
                spent(x, c);
                Check.due("count(1)", x.count(1), had);
            }
            state(x, 2, by == 998 ? 1 : 2);
            state(x, 3, by == 998 ? 1 : 2);
            state(x, 4, 0);
            state(x, 0, 1);
            x.rerun(c);
            Check.due("later", x.of(c, 1), by == 998 ? 0 : START);
        }

        Check.sentence("Terms 2", "SPENT ahead of the first act of a START that is begun, and behind its last");
        Book x = bookOfSteps();
        x.clazz(2, -1, 0, 0, 0, 1);
        x.clazz(3, -1, 0, 0);
        spent(x, x.value(4, Rows.join(codeOf(999), Rows.row(2, 2, 18))));
        state(x, 2, 2);
        Check.due("no OBJECT of it", x.edition(2, 7), 0);
        spent(x, x.value(4, Rows.join(codeOf(999), Rows.row(2, 3, 18))));
        state(x, 3, 1);
        Check.due("an OBJECT of it", x.edition(3, 7), 1);
        x.rerun(2);
        int e = x.newest(2);
        spent(x, x.value(4, Rows.join(codeOf(998), Rows.row(2, 2, 18))));
        state(x, e, 1);
        Check.due("an OBJECT of it", x.edition(e, 7), 1);
    }

    public static void main(String[] args) {
        cells();
        rightAsTheyAreThen();
        whatItLeansOn();
        newEditions();
        objects();
        steps();
        kindsOfFailures();
        severalInOneAct();
        whatStays();
        depthOfMethods();
        depthOfStarts();
        starts();
        startedWhileBegun();
        failuresWithinStarts();
        spentWithinStarts();
        Check.end();
    }
}
