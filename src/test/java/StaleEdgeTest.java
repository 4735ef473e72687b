/** Terms 3 and promises 7, 8 and 11, sentence by sentence: what is STALE, and the order of RUNNING ALL STALE. */
public final class StaleEdgeTest {

    private static void stale(Book x, boolean... wants) {
        for (int c = 0; c < wants.length; c++) {
            Check.due("stale(" + c + ")", x.stale(c), wants[c]);
        }
    }

    /** The EDITIONS from e on were made by these CELLS, and there are no more. */
    private static void makers(Book x, int e, int... cells) {
        for (int i = 0; i < cells.length; i++) {
            Check.due("edition(" + (e + i) + ", 2)", x.edition(e + i, 2), cells[i]);
        }
        Check.due("count(0)", x.count(0), e + cells.length);
    }

    // ---- what is STALE

    private static void notTheNewest() {
        Check.sentence("Terms 3", "A CELL is STALE if an EDITION that it LEANS on isn't the newest one of its NAME (any more)");
        Book x = new Book();
        x.value(0, 0, 1);
        x.value(1, 1, 0);
        x.value(2, 0, 2);
        stale(x, false, false, false);
        x.rerun(0);
        stale(x, false, true, false);
        x.rerun(1);
        stale(x, false, false, false);
        // one made by another CELL of that NAME
        x.value(0, 0, 3);
        stale(x, false, true, false, false);
        x.rerun(1);
        // no NAME that it doesn't use
        x.rerun(2);
        stale(x, false, false, false, false);
        // FORGOTTEN: there is no newest one
        x.forget(0);
        stale(x, false, true, false, false);
        // the last EDITION isn't the one that was FORGOTTEN
        x.rerun(3);
        stale(x, false, true, false, false);

        Check.sentence("Terms 3", "STALE by a RUN that made none, or that had a FAULT");
        x = new Book();
        x.value(0, 0, 1);
        x.value(1, 1, 0);
        x.retype(0, 0, 1, 0, 0, 11);
        stale(x, false, false);
        x.retype(0, 99);
        stale(x, false, false);
        x.rerun(0);
        stale(x, false, false);
        // one that FAILED itself leans on what it was run by
        x.retype(0, 0, 4);
        Check.due("FAILED", x.retype(1, 1, 0, 0, 0, 11), 1);
        stale(x, false, false);
        x.rerun(0);
        stale(x, false, true);

        Check.sentence("Terms 3", "isn't the newest one: a CELL that uses the NAME that it makes");
        x = new Book();
        x.value(0, 0, 1);
        x.retype(0, 1, 0);
        stale(x, true);
        x.rerun(0);
        stale(x, true);
    }

    private static void byOthers() {
        Check.sentence("Terms 3", "or was made by a CELL that is STALE");
        Book x = new Book();
        x.value(0, 0, 1);
        for (int n = 1; n < 16; n++) {
            x.value(n, 1, n - 1);
        }
        for (int c = 0; c < 16; c++) {
            Check.due("stale(" + c + ")", x.stale(c), false);
        }
        x.rerun(0);
        for (int c = 0; c < 16; c++) {
            Check.due("stale(" + c + ")", x.stale(c), c > 0);
        }
        x.rerun(1);
        for (int c = 0; c < 16; c++) {
            Check.due("stale(" + c + ")", x.stale(c), c > 1);
        }

        Check.sentence("Terms 3", "was made by a CELL that is STALE (whichever has the greater number)");
        x = bookOfFalling();
        for (int c = 0; c < 16; c++) {
            Check.due("stale(" + c + ")", x.stale(c), c < 15);
        }

        Check.sentence("Terms 3", "(by a CELL that is STALE, also through a CLASS and its parent)");
        x = new Book();
        x.clazz(0, -1, 0, 0);
        x.clazz(1, 0, 0, 0);
        x.value(2, 2, 1);
        x.value(3, 1, 2, 15);
        x.rerun(0);
        stale(x, false, true, true, true);

        Check.sentence("Terms 3", "(the fewest such that this is so)");
        // each LEANS on the newest EDITION of the other one, which is older than that RUN: none is STALE by that
        x = new Book();
        x.value(0, 0, 1);
        x.value(1, 1, 0);
        x.retype(0, 1, 1, 0, 0, 11);
        Check.due("leans(0, 0)", x.leans(0, 0), 1);
        Check.due("leans(1, 0)", x.leans(1, 0), 0);
        stale(x, false, false);
        // its own newest EDITION
        x = new Book();
        x.value(0, 0, 1);
        x.retype(0, 1, 0, 0, 0, 11);
        Check.due("leans(0, 0)", x.leans(0, 0), 0);
        stale(x, false);
    }

    /** NAMES 0 .. 15, each CELL LEANS on the NAME above it, and CELL 15 was RUN last: all others are STALE. */
    private static Book bookOfFalling() {
        Book x = new Book();
        for (int n = 0; n < 16; n++) {
            x.value(n, 0, n);
        }
        for (int c = 14; c >= 0; c--) {
            x.retype(c, 1, c + 1);
        }
        x.retype(15, 0, 99);
        return x;
    }

    // ---- RUNNING ALL STALE

    private static void theLeastNumber() {
        Check.sentence("Terms 3", "of those that LEAN on no EDITION of a NAME whose newest EDITION is of another one that is "
            + "WAITING, the one with the least number");
        Book x = bookOfFalling();
        Check.due("rerunStale", x.rerunStale(), 15);
        makers(x, 32, 14, 13, 12, 11, 10, 9, 8, 7, 6, 5, 4, 3, 2, 1, 0);
        Check.due("the VALUE went through", x.edition(46, 6), 99);
        Check.due("none is STALE", x.rerunStale(), 0);
        // all are free: by their numbers
        x = new Book();
        x.value(0, 0, 1);
        x.value(1, 1, 0);
        x.value(2, 1, 0);
        x.value(3, 1, 0);
        x.rerun(0);
        Check.due("rerunStale", x.rerunStale(), 3);
        makers(x, 5, 1, 2, 3);
        // one that is free and greater goes ahead of one that isn't, and the lesser one as soon as it is free
        x = new Book();
        x.value(1, 0, 1);
        x.value(0, 0, 1);
        x.value(2, 1, 0);
        x.value(3, 1, 0);
        x.retype(0, 1, 2);
        x.rerun(1);
        Check.due("rerunStale", x.rerunStale(), 3);
        makers(x, 6, 2, 0, 3);
    }

    private static void byTheNewest() {
        Check.sentence("Terms 3", "a NAME whose newest EDITION is of another one that is WAITING (not the EDITION it LEANS on)");
        // CELL 1 LEANS on CELL 0's EDITION of NAME 5, whose newest is of CELL 2, which is WAITING
        Book x = new Book();
        x.value(5, 0, 1);
        x.value(6, 1, 5);
        x.value(7, 0, 1);
        x.value(5, 1, 7);
        x.rerun(2);
        stale(x, false, true, false, true);
        Check.due("rerunStale", x.rerunStale(), 2);
        makers(x, 5, 3, 1);
        // CELL 0 LEANS on CELL 2's EDITION, which is WAITING, but the newest of that NAME is of CELL 3
        x = new Book();
        x.value(6, 0, 0);
        x.value(7, 0, 0);
        x.value(5, 1, 7);
        x.retype(0, 1, 5);
        x.value(5, 0, 9);
        x.rerun(1);
        stale(x, true, false, true, false);
        Check.due("rerunStale", x.rerunStale(), 2);
        makers(x, 6, 0, 2);
        stale(x, true, false, false, false);

        Check.sentence("Terms 3", "each time (by the newest EDITIONS as the RUNS before have left them)");
        x = new Book();
        x.value(6, 0, 0);
        x.value(5, 0, 0);
        x.value(5, 0, 0);
        x.value(7, 0, 0);
        x.retype(1, 1, 7);
        x.retype(2, 1, 7);
        x.retype(0, 1, 5);
        x.rerun(3);
        stale(x, true, true, true, false);
        Check.due("rerunStale", x.rerunStale(), 3);
        makers(x, 8, 1, 0, 2);

        Check.sentence("Terms 3", "of a NAME that is FORGOTTEN there is no newest EDITION to wait for");
        x = new Book();
        x.value(1, 0, 0);
        x.value(2, 0, 0);
        x.value(3, 0, 0);
        x.retype(1, 1, 3);
        x.retype(0, 1, 2, 1, 3, 18);
        x.forget(2);
        x.rerun(2);
        stale(x, true, true, false);
        // CELL 0 isn't held up, has its FAULT first, and isn't WAITING any more when CELL 1 has made one
        Check.due("rerunStale", x.rerunStale(), 1);
        makers(x, 6, 1);
        stale(x, true, false, false);

        Check.sentence("Terms 3", "of another one (its own doesn't hold it up)");
        x = new Book();
        x.value(0, 0, 1);
        x.value(1, 0, 1);
        x.retype(0, 1, 0, 0, 1, 8);
        x.retype(1, 1, 0);
        x.rerun(0);
        stale(x, true, true);
        Check.due("rerunStale", x.rerunStale(), 2);
        makers(x, 5, 0, 1);
        Check.due("its VALUE", x.edition(5, 6), 4);
        stale(x, true, true);
    }

    private static void ringsAndFaults() {
        Check.sentence("Terms 3", "(if there is none such, of all that are WAITING)");
        // a ring of 1, 2, 3, with 0 behind it: 0 has the least number, and isn't of the ring
        Book x = new Book();
        for (int n = 0; n < 4; n++) {
            x.value(n, 0, n);
        }
        x.retype(1, 1, 3);
        x.retype(2, 1, 1);
        x.retype(3, 1, 2);
        x.retype(0, 1, 1);
        stale(x, true, true, true, true);
        Check.due("rerunStale", x.rerunStale(), 4);
        // 0 as the least of all; then of the ring 1, and behind it what that has freed
        makers(x, 8, 0, 1, 2, 3);

        Check.sentence("Terms 3", "is RUN, and isn't WAITING any more (whatever came of it, a FAULT too)");
        x = new Book();
        x.value(0, 0, 1);
        x.value(1, 0, 6, 1, 0, 11);
        x.value(2, 1, 0, 15);
        x.value(3, 1, 1, 1, 2, 8);
        x.value(4, 0, 1);
        x.value(5, 1, 4, 1, 0, 18);
        x.forget(4);
        x.retype(0, 0, 0);
        stale(x, false, true, true, true, false, true);
        // CELL 1 FAILS, 2 goes well, 3 by the older EDITION of 1 and the new one of 2, 5 has a FAULT
        Check.due("rerunStale", x.rerunStale(), 3);
        makers(x, 7, 2, 3);
        Check.due("of(1, 1)", x.of(1, 1), 2);
        Check.due("6 + 0", x.edition(8, 6), 6);
        Check.due("leans(3, 0)", x.leans(3, 0), 1);
        Check.due("of(5, 4), of the RUN before", x.of(5, 4), 5);
        stale(x, false, false, false, false, false, true);
        Check.due("again", x.rerunStale(), 0);

        Check.sentence("Terms 3", "those that are STALE at the beginning are WAITING (none that becomes so)");
        // CELL 1 makes NAME 2 anew, on which CELL 0 LEANS: that wasn't STALE
        x = new Book();
        x.value(3, 0, 0);
        x.value(2, 0, 0);
        x.value(1, 0, 0);
        x.value(2, 0, 0);
        x.retype(0, 1, 2);
        x.retype(1, 1, 1);
        x.rerun(0);
        x.rerun(3);
        x.rerun(0);
        x.rerun(2);
        stale(x, false, true, false, false);
        Check.due("rerunStale", x.rerunStale(), 1);
        makers(x, 10, 1);
        stale(x, true, false, false, false);
    }

    private static void failedClasses() {
        Check.sentence("Terms 3", "is RUN (a CLASS ahead of its OBJECTS, and of those below it)");
        Book x = new Book();
        x.value(0, 0, 0);
        x.value(1, 0, 0);
        x.clazz(2, -1, 0, 0);
        x.clazz(3, -1, 0, 0);
        x.retype(0, 2, 3);
        x.retype(3, 2, 0, 0);
        x.retype(0, 2, 3);
        x.retype(1, 1, 0, 3, 2);
        x.retype(2, -1, 1, 4, 44, 0);
        stale(x, true, true, false, true);
        Check.due("rerunStale", x.rerunStale(), 3);
        makers(x, 9, 3, 0, 1);
        Check.due("an OBJECT of the new one", x.field(x.edition(10, 6), 4, 1), 44);
        Check.due("below the new one", x.edition(11, 6), 1);
    }

    // ---- promises 7, 8, 11

    private static void rerunStale() {
        Check.sentence("Promise 7", "how many were RUN without a FAULT (none)");
        Book x = new Book();
        Check.due("in a new book", x.rerunStale(), 0);
        x.value(0, 0, 1);
        Check.due("none is STALE", x.rerunStale(), 0);
        Check.due("count(0)", x.count(0), 1);

        Check.sentence("Promise 7", "how many were RUN without a FAULT (FAILED and SPENT ones, too)");
        x = new Book();
        x.clazz(0, Rows.join(Rows.row(-1, 0, 3, 0, 24), Rows.times(5, 16, 17, 7, 1), Rows.times(4, 18),
            Rows.row(1, 24), Rows.times(5, 16, 17, 7, 2), Rows.times(4, 18), Rows.row(2, 1, 17)));
        x.value(1, 2, 0);
        x.value(2, 0, 0, 4, 0);
        x.value(3, Rows.join(Rows.times(8, 1, 1), Rows.row(0, 6), Rows.times(8, 7, 0)));
        Check.due("of(2, 0)", x.of(2, 0), 1);
        Check.due("of(3, 0)", x.of(3, 0), 2);
        x.rerun(0);
        stale(x, false, true, true, true);
        Check.due("rerunStale", x.rerunStale(), 3);
        makers(x, 2, 0, 1);

        Check.sentence("Promise 7", "FULL: there would be more than 150 EDITIONS if each that is STALE made one");
        x = bookOfTwoStale(148);
        Check.due("148 and 2", x.rerunStale(), 2);
        Check.due("count(0)", x.count(0), 150);
        Check.due("150 and none", x.rerunStale(), 0);
        x = bookOfTwoStale(149);
        Check.due("149 and 2", x.rerunStale(), EditionBook.FULL);
        Check.due("count(0)", x.count(0), 149);
        stale(x, false, true, true);
        Check.due("149 and 1 by hand", x.rerun(1), 0);
        Check.due("150 and 1", x.rerunStale(), EditionBook.FULL);

        Check.sentence("Promise 7", "if each that is STALE made one (also where it wouldn't)");
        x = new Book();
        x.value(0, 0, 1);
        x.value(1, 1, 0, 0, 0, 11);
        x.value(2, 1, 0);
        x.forget(0);
        Check.due("a FAULT each", x.rerunStale(), 0);
        x.rerun(0);
        x.makeEditions(0, 149);
        stale(x, false, true, true);
        Check.due("one would FAIL", x.rerunStale(), EditionBook.FULL);
        x.forget(0);
        Check.due("both would have a FAULT", x.rerunStale(), EditionBook.FULL);
    }

    private static Book bookOfTwoStale(int editions) {
        Book x = new Book();
        x.value(0, 0, 1);
        x.value(1, 1, 0);
        x.value(2, 1, 0);
        x.makeEditions(0, editions);
        return x;
    }

    private static void forgetAndStale() {
        Check.sentence("Promise 8", "A NAME is FORGOTTEN: 1; 0 if it has no newest EDITION");
        Book x = new Book();
        Check.due("forget(0), never there", x.forget(0), 0);
        Check.due("forget(15), never there", x.forget(15), 0);
        x.value(0, 0, 1);
        x.clazz(15, -1, 0, 0);
        Check.due("forget(0)", x.forget(0), 1);
        Check.due("forget(0) again", x.forget(0), 0);
        Check.due("forget(15)", x.forget(15), 1);
        Check.due("forget(15) again", x.forget(15), 0);
        x.rerun(0);
        Check.due("forget(0), there again", x.forget(0), 1);
        Check.due("count(0), they are all there", x.count(0), 3);
        Check.due("edition(0, 0)", x.edition(0, 0), 0);

        Check.sentence("Promise 8", "NUMBER: name isn't 0 .. 15");
        for (int name : new int[] {-1, 16, Integer.MIN_VALUE, Integer.MAX_VALUE}) {
            Check.due("forget(" + name + ")", x.forget(name), EditionBook.NUMBER);
        }

        Check.sentence("Promise 11", "Whether a CELL is STALE (there is no such CELL: it isn't)");
        x = bookOfTwoStale(4);
        stale(x, false, true, true);
        for (int c : new int[] {-1, 3, 40, 64, 65, -63, Integer.MIN_VALUE, Integer.MAX_VALUE}) {
            Check.due("stale(" + c + ")", x.stale(c), false);
        }

        Check.sentence("Promise 11", "Whether a CELL is STALE (the last one that may be)");
        x = new Book();
        x.value(0, 0, 1);
        for (int c = 1; c < 40; c++) {
            x.value(1, 1, 0);
        }
        Check.due("stale(39)", x.stale(39), false);
        x.rerun(0);
        Check.due("stale(39)", x.stale(39), true);
        Check.due("stale(40)", x.stale(40), false);
        Check.due("rerunStale", x.rerunStale(), 39);
        Check.due("edition(79, 2)", x.edition(79, 2), 39);
        Check.due("stale(39)", x.stale(39), false);
    }

    public static void main(String[] args) {
        notTheNewest();
        byOthers();
        theLeastNumber();
        byTheNewest();
        ringsAndFaults();
        failedClasses();
        rerunStale();
        forgetAndStale();
        Check.end();
    }
}
