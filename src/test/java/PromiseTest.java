/** The promises one by one: ordinary inputs, the edges that the document names, and wrong inputs. */
public final class PromiseTest {
    private static int wrong = 0;
    private static int asked = 0;
    private static String part = "";

    private static void due(String call, long got, long want) {
        asked++;
        if (got != want) {
            wrong++;
            System.out.println(part + ": " + call + " answered " + got + ", due is " + want);
        }
    }

    private static void due(String call, boolean got, boolean want) {
        due(call, got ? 1 : 0, want ? 1 : 0);
    }

    private static int newCell(Book x, int name, int sort, int... text) {
        x.type(text);
        return x.cell(name, sort);
    }

    // ---- promise 1

    private static void newObject() {
        part = "promise 1";
        Book x = new Book();
        for (int what = 0; what < 4; what++) {
            due("count", x.count(what), 0);
            due("came", x.came(what), 0);
        }
        for (int name = 0; name < 16; name++) {
            due("newest", x.newest(name), -1);
        }
        due("edition(0, 0)", x.edition(0, 0), -3);
        due("of(0, 0)", x.of(0, 0), -3);
        due("classOf(0)", x.classOf(0), -1);
        due("back(0)", x.back(0), false);
        due("back(1)", x.back(1), false);
        due("rerunStale()", x.rerunStale(), 0);
        due("NUMBER", EditionBook.NUMBER, -1);
        due("FULL", EditionBook.FULL, -2);
    }

    // ---- promises 2, 3

    private static void tape() {
        part = "promises 2, 3";
        Book x = new Book();
        due("put(0, ..)", x.put(0, 1, 2, 3, 4), -1);
        due("put(5, ..)", x.put(5, 1, 2, 3, 4), -1);
        due("put(-1, ..)", x.put(-1, 1, 2, 3, 4), -1);
        due("put(MIN, ..)", x.put(Integer.MIN_VALUE, 1, 2, 3, 4), -1);
        due("put(MAX, ..)", x.put(Integer.MAX_VALUE, 1, 2, 3, 4), -1);
        due("put(1, ..)", x.put(1, 0, 9, 9, 9), 1);
        due("put(3, ..)", x.put(3, 6, 0, 7, 9), 4);
        due("put(1, ..)", x.put(1, 10, 9, 9, 9), 5);
        due("cell", x.cell(0, 0), 0);
        due("6 * 7", x.edition(0, 6), 42);
        due("put(2, ..)", x.put(2, 0, 5, 9, 9), 2);
        due("wipe()", x.wipe(), 2);
        due("wipe()", x.wipe(), 0);
        for (int i = 1; i <= 14; i++) {
            due("put(4, ..)", x.put(4, 0, 0, 0, 0), 4 * i);
        }
        due("put(1, ..)", x.put(1, 0, 0, 0, 0), 57);
        due("put(4, ..) beyond 60", x.put(4, 0, 0, 0, 0), -2);
        due("count(3)", x.count(3), 57);
        due("put(3, ..) to 60", x.put(3, 0, 0, 0, 0), 60);
        due("put(1, ..) at 60", x.put(1, 0, 0, 0, 0), -2);
        due("put(5, ..) at 60", x.put(5, 0, 0, 0, 0), -1);
        due("wipe()", x.wipe(), 60);
        due("count(3)", x.count(3), 0);
    }

    // ---- promise 4

    private static void cell() {
        part = "promise 4";
        Book x = new Book();
        x.type(0, 1);
        due("cell(-1, 0)", x.cell(-1, 0), -1);
        due("cell(16, 0)", x.cell(16, 0), -1);
        due("cell(0, -1)", x.cell(0, -1), -1);
        due("cell(0, 2)", x.cell(0, 2), -1);
        due("the tape stays", x.count(3), 2);
        due("cell(15, 0)", x.cell(15, 0), 0);
        due("the tape is empty", x.count(3), 0);
        due("newest(15)", x.newest(15), 0);
        due("a CELL that FAILS comes, too", newCell(x, 1, 0, 0, 1, 0, 0, 11), 1);
        due("the tape is empty", x.count(3), 0);
        due("newest(1)", x.newest(1), -1);
        for (int c = 2; c < 40; c++) {
            due("cell", newCell(x, 0, 0, 0, c), c);
        }
        due("a 41st", newCell(x, 0, 0, 0, 1), -2);
        due("a 41st, faulty", newCell(x, 0, 0, 0), -2);
        due("the tape stays", x.count(3), 1);
        due("a 41st, wrong name", x.cell(16, 0), -1);
        due("count(2)", x.count(2), 40);

        x = new Book();
        newCell(x, 0, 0, 0, 1);
        for (int e = 1; e < 150; e++) {
            due("rerun", x.rerun(0), 0);
        }
        due("150 EDITIONS", newCell(x, 1, 0, 0, 1), -2);
        due("150 EDITIONS, wrong sort", x.cell(1, 2), -1);
        due("150 EDITIONS, redo", x.redo(0), -2);
        due("150 EDITIONS, redo of none", x.redo(1), -1);
        due("150 EDITIONS, rerun", x.rerun(0), -2);
        due("150 EDITIONS, rerun of none", x.rerun(1), -1);
        due("150 EDITIONS, rerunStale", x.rerunStale(), 0);
        due("the tape stays", x.count(3), 2);
        due("count(0)", x.count(0), 150);
        due("edition(149, 1)", x.edition(149, 1), 149);
        due("edition(149, 4)", x.edition(149, 4), 1);
        due("edition(150, 0)", x.edition(150, 0), -3);
    }

    private static void faultOf(int sort, int place, int... text) {
        Book x = new Book();
        newCell(x, 0, 0, 0, 1);
        newCell(x, 1, 1, -1, 0, 0);
        newCell(x, 2, 0, 0, 1);
        x.forget(2);
        x.type(text);
        String told = "cell(3, " + sort + ") of " + java.util.Arrays.toString(text);
        due(told, x.cell(3, sort), place < 0 ? 3 : -100 - place);
        due("count(3) behind that", x.count(3), place < 0 ? 0 : text.length);
        due("count(2) behind that", x.count(2), place < 0 ? 4 : 3);
    }

    private static void faultsOfCode() {
        part = "faults of code";
        faultOf(0, 0);
        faultOf(0, 0, -1);
        faultOf(0, 0, 19);
        faultOf(0, 0, Integer.MIN_VALUE);
        faultOf(0, 0, Integer.MAX_VALUE);
        faultOf(0, 0, 0);
        faultOf(0, -1, 0, 0);
        faultOf(0, -1, 1, 0);
        faultOf(0, 0, 1, 1);
        faultOf(0, 0, 1, 2);
        faultOf(0, 0, 1, 3);
        faultOf(0, 0, 1, -1);
        faultOf(0, 0, 1, 16);
        faultOf(0, -1, 2, 1);
        faultOf(0, 0, 2, 0);
        faultOf(0, 0, 2, 2);
        faultOf(0, 0, 2, 16);
        faultOf(0, -1, 0, 1, 3, 1);
        faultOf(0, 2, 0, 1, 3, 0);
        faultOf(0, 0, 3, 1);
        faultOf(0, 2, 0, 1, 4, 0);
        faultOf(0, 0, 4, 1);
        faultOf(0, 2, 0, 1, 4);
        faultOf(0, -1, 0, 1, 5, 9);
        faultOf(0, 2, 0, 1, 5, 10);
        faultOf(0, 2, 0, 1, 5, -1);
        faultOf(0, 0, 5, 0);
        faultOf(0, -1, 0, 1, 0, 1, 6, 0);
        faultOf(0, 2, 0, 1, 6, 0);
        faultOf(0, 4, 0, 1, 0, 1, 6, 10);
        faultOf(0, -1, 0, 1, 0, 1, 7, 4);
        faultOf(0, 4, 0, 1, 0, 1, 7, 5);
        faultOf(0, 4, 0, 1, 0, 1, 7, -1);
        faultOf(0, 2, 0, 1, 7, 0);
        for (int act = 8; act <= 13; act++) {
            faultOf(0, 0, act);
            faultOf(0, 2, 0, 1, act);
            faultOf(0, -1, 0, 1, 0, 1, act);
        }
        faultOf(0, 4, 0, 1, 0, 1, 14);
        faultOf(0, -1, 0, 1, 0, 1, 0, 1, 14);
        faultOf(0, 0, 15);
        faultOf(0, -1, 0, 1, 15);
        faultOf(0, 0, 16);
        faultOf(0, 0, 17);
        faultOf(0, 2, 0, 1, 18);
        faultOf(0, -1, 0, 1, 0, 1, 18);
        faultOf(0, 4, 0, 1, 0, 1);
        faultOf(0, 4, 0, 1, 0, 1, 99);
        faultOf(0, 2, 0, 1, 0);
    }

    private static void faultsOfClasses() {
        part = "faults of classes";
        faultOf(1, 0);
        faultOf(1, 0, -2);
        faultOf(1, 0, 16);
        faultOf(1, 0, 0, 0, 0);
        faultOf(1, 0, 2, 0, 0);
        faultOf(1, 0, 3, 0, 0);
        faultOf(1, 1, -1);
        faultOf(1, 1, 1);
        faultOf(1, 1, 1, 5);
        faultOf(1, 1, 1, -1);
        faultOf(1, 2, 1, 0);
        faultOf(1, -1, 1, 0, 0);
        faultOf(1, 2, -1, 1);
        faultOf(1, 2, -1, 1, 10);
        faultOf(1, 2, -1, 1, -1, 0, 0);
        faultOf(1, 3, -1, 1, 9);
        faultOf(1, 4, -1, 1, 9, 100);
        faultOf(1, -1, -1, 1, 9, Integer.MIN_VALUE, 0);
        faultOf(1, 4, -1, 2, 9, 1, 9, 1, 0);
        faultOf(1, -1, -1, 4, 9, 1, 8, 1, 7, 1, 6, 1, 0);
        faultOf(1, 2, -1, 0, 4);
        faultOf(1, 2, -1, 0, -1);
        faultOf(1, 3, -1, 0, 1);
        faultOf(1, 3, -1, 0, 1, 5);
        faultOf(1, 3, -1, 0, 1, -1);
        faultOf(1, 4, -1, 0, 1, 4);
        faultOf(1, 4, -1, 0, 1, 4, -1);
        faultOf(1, 4, -1, 0, 1, 4, Integer.MIN_VALUE);
        faultOf(1, 4, -1, 0, 1, 4, Integer.MAX_VALUE, 16);
        faultOf(1, 4, -1, 0, 1, 4, 1);
        faultOf(1, 4, -1, 0, 1, 4, 2, 16);
        faultOf(1, 5, -1, 0, 1, 4, 0);
        faultOf(1, 5, -1, 0, 1, 4, 0, 16);
        faultOf(1, -1, -1, 0, 1, 4, 1, 16);
        faultOf(1, -1, -1, 0, 1, 4, 1, 17);
        faultOf(1, 5, -1, 0, 1, 4, 1, 15);
        // the length alone ends the CODE: the 0 has no int of its own there
        faultOf(1, 5, -1, 0, 1, 4, 1, 0, 5);
        faultOf(1, 6, -1, 0, 1, 4, 2, 16, 0, 5);
        faultOf(1, 7, -1, 0, 1, 4, 2, 16, 17);
        faultOf(1, 6, -1, 0, 2, 4, 1, 16, 4, 1, 16);
        faultOf(1, 6, -1, 0, 2, 4, 1, 16);
        faultOf(1, -1, -1, 0, 3, 4, 1, 16, 3, 1, 16, 2, 1, 16);
        faultOf(1, 3, -1, 0, 0, 16);
        faultOf(1, 3, -1, 0, 0, 17);
        faultOf(1, 3, -1, 0, 0, 0);
        faultOf(1, 5, -1, 0, 0, 0, 1, 16);
        faultOf(1, 7, -1, 0, 0, 0, 1, 0, 1);
        faultOf(1, -1, -1, 0, 0, 0, 1);
        // a CLASS that doesn't exist yet can't name itself
        faultOf(1, 3, -1, 0, 0, 2, 3);
    }

    // ---- promises 5, 6

    private static void redoAndRerun() {
        part = "promises 5, 6";
        Book x = new Book();
        newCell(x, 0, 0, 0, 5);
        newCell(x, 1, 0, 1, 0, 0, 1, 8);
        due("edition(1, 6)", x.edition(1, 6), 6);
        due("redo(-1)", x.retype(-1, 0, 1), -1);
        due("redo(2)", x.retype(2, 0, 1), -1);
        due("rerun(-1)", x.rerun(-1), -1);
        due("rerun(2)", x.rerun(2), -1);
        due("redo WELL", x.retype(0, 0, 10), 0);
        due("the tape is empty", x.count(3), 0);
        due("newest(0)", x.newest(0), 2);
        x.type(9, 9, 9);
        due("rerun WELL", x.rerun(1), 0);
        due("the tape is as it was", x.wipe(), 3);
        due("edition(3, 6)", x.edition(3, 6), 11);
        due("redo with a FAULT", x.retype(0, 0, 1, 0, 1), -104);
        due("the tape stays", x.count(3), 4);
        due("the TEXT stays", x.of(0, 8), 2);
        due("rerun by the TEXT that stayed", x.rerun(0), 0);
        due("edition(4, 6)", x.edition(4, 6), 10);
        due("redo FAILED", x.retype(0, 0, 1, 0, 0, 11), 1);
        due("the tape is empty", x.count(3), 0);
        due("the TEXT is the new one", x.of(0, 8), 5);
        due("no new EDITION", x.newest(0), 4);
        due("of(0, 4)", x.of(0, 4), -1);
        due("rerun FAILED", x.rerun(0), 1);
        due("a CELL keeps its SORT", x.retype(0, -1, 0, 0), -100);
        x.forget(0);
        due("rerun with a FAULT", x.rerun(1), -100);
        due("of the RUN before", x.of(1, 4), 3);
        due("leans of the RUN before", x.leans(1, 0), 2);
        due("count(0)", x.count(0), 5);
    }

    // ---- promise 7

    private static void rerunStale() {
        part = "promise 7";
        Book x = new Book();
        newCell(x, 0, 0, 0, 1);
        newCell(x, 1, 0, 0, 5);
        newCell(x, 2, 0, 1, 0);
        x.retype(1, 1, 2);
        x.retype(0, 0, 7);
        due("stale(0)", x.stale(0), false);
        due("stale(1)", x.stale(1), true);
        due("stale(2)", x.stale(2), true);
        due("rerunStale", x.rerunStale(), 2);
        due("CELL 2 ahead of CELL 1", x.newest(2), 5);
        due("CELL 1 behind it", x.newest(1), 6);
        due("its VALUE", x.edition(6, 6), 7);
        due("stale(1)", x.stale(1), false);
        due("none", x.rerunStale(), 0);

        x = new Book();
        newCell(x, 0, 0, 0, 1);
        newCell(x, 1, 0, 1, 0);
        x.retype(0, 1, 1);
        due("a ring: stale(0)", x.stale(0), true);
        due("a ring: stale(1)", x.stale(1), true);
        due("a ring", x.rerunStale(), 2);
        due("the least number first", x.newest(0), 3);
        due("then the other", x.newest(1), 4);
        due("stale(0) again", x.stale(0), true);
        due("stale(1) again", x.stale(1), true);

        x = new Book();
        newCell(x, 0, 0, 0, 1);
        x.retype(0, 1, 0, 0, 1, 8);
        due("stale by itself", x.stale(0), true);
        due("rerunStale", x.rerunStale(), 1);
        due("its VALUE", x.edition(2, 6), 3);

        x = new Book();
        newCell(x, 0, 0, 0, 1);
        newCell(x, 1, 0, 1, 0);
        newCell(x, 2, 0, 0, 6, 1, 1, 11);
        newCell(x, 3, 0, 1, 2);
        x.forget(2);
        x.retype(0, 0, 0);
        due("one has a FAULT, one FAILS, both aren't WAITING any more", x.rerunStale(), 2);
        due("of(2, 1)", x.of(2, 1), 2);
        due("count(0)", x.count(0), 6);

        x = new Book();
        newCell(x, 0, 0, 0, 1);
        newCell(x, 1, 0, 1, 0);
        newCell(x, 2, 0, 1, 0);
        while (x.count(0) < 149) {
            x.rerun(0);
        }
        due("149 and two STALE", x.rerunStale(), -2);
        due("count(0)", x.count(0), 149);
        due("stale(1)", x.stale(1), true);
        due("one by hand", x.rerun(1), 0);
        due("150 and one STALE", x.rerunStale(), -2);

        x = new Book();
        newCell(x, 0, 0, 0, 1);
        newCell(x, 1, 0, 1, 0);
        newCell(x, 2, 0, 1, 0);
        while (x.count(0) < 148) {
            x.rerun(0);
        }
        due("148 and two STALE", x.rerunStale(), 2);
        due("count(0)", x.count(0), 150);
        due("150 and none STALE", x.rerunStale(), 0);
    }

    // ---- promises 8, 11, 14

    private static void forgetAndStale() {
        part = "promises 8, 11, 14";
        Book x = new Book();
        due("forget(-1)", x.forget(-1), -1);
        due("forget(16)", x.forget(16), -1);
        due("forget(15)", x.forget(15), 0);
        newCell(x, 15, 0, 0, 1);
        newCell(x, 1, 0, 1, 15);
        newCell(x, 2, 0, 1, 1);
        due("newest(15)", x.newest(15), 0);
        due("newest(16)", x.newest(16), -1);
        due("newest(-1)", x.newest(-1), -1);
        due("stale(2)", x.stale(2), false);
        due("forget(15)", x.forget(15), 1);
        due("forget(15) again", x.forget(15), 0);
        due("newest(15)", x.newest(15), -1);
        due("edition(0, 4)", x.edition(0, 4), 0);
        due("stale(0)", x.stale(0), false);
        due("stale(1)", x.stale(1), true);
        due("stale(2), by CELL 1", x.stale(2), true);
        due("stale(-1)", x.stale(-1), false);
        due("stale(3)", x.stale(3), false);
        due("rerun(0)", x.rerun(0), 0);
        due("newest(15) is there again", x.newest(15), 3);
        due("edition(3, 1) counts the forgotten", x.edition(3, 1), 1);
        due("rerunStale", x.rerunStale(), 2);
        due("stale(2)", x.stale(2), false);
        // a CELL that FAILED made no new EDITION: what leans on its older one isn't STALE by that
        x.retype(0, 0, 1, 0, 0, 11);
        due("stale(1)", x.stale(1), false);
        // it leans on its own EDITION, and FAILED: by itself alone it isn't STALE
        x.retype(0, 1, 15, 0, 0, 11);
        due("stale(0)", x.stale(0), false);
        // two NAMES whose EDITIONS aren't the newest of their own CELLS
        newCell(x, 15, 0, 0, 4);
        due("another CELL made the newest one", x.stale(1), true);
    }

    // ---- promises 9, 10, 12

    private static void told() {
        part = "promises 9, 10, 12";
        Book x = new Book();
        newCell(x, 3, 1, -1, 1, 0, 4, 1, 0, 3, 17, 15, 15);
        newCell(x, 9, 0, 2, 3);
        newCell(x, 5, 0, 1, 9, 0, 8, 7, 0, 2, 3, 15, 18);
        int[] wants = {0, 0, 9, 3, 2, 5, 0, 2, 10};
        for (int what = 0; what < 9; what++) {
            due("of(2, " + what + ")", x.of(2, what), wants[what]);
        }
        int[] wantsOfClass = {0, 0, 0, 0, 0, 3, 1, 0, 10};
        for (int what = 0; what < 9; what++) {
            due("of(0, " + what + ")", x.of(0, what), wantsOfClass[what]);
        }
        due("of(2, 9)", x.of(2, 9), -3);
        due("of(2, -1)", x.of(2, -1), -3);
        due("of(3, 0)", x.of(3, 0), -3);
        due("of(-1, 0)", x.of(-1, 0), -3);
        due("leans(2, 0), rising", x.leans(2, 0), 0);
        due("leans(2, 1)", x.leans(2, 1), 1);
        due("leans(2, 2)", x.leans(2, 2), -1);
        due("leans(2, -1)", x.leans(2, -1), -1);
        due("leans(3, 0)", x.leans(3, 0), -1);
        due("leans(-1, 0)", x.leans(-1, 0), -1);
        due("leans(0, 0)", x.leans(0, 0), -1);
        due("written(2, 0, 0)", x.written(2, 0, 0), 0);
        due("written(2, 0, 1)", x.written(2, 0, 1), 8);
        due("written(2, 1, 1)", x.written(2, 1, 1), 8);
        due("written(2, 2, 0)", x.written(2, 2, 0), 1);
        due("written(2, 2, 1)", x.written(2, 2, 1), 1);
        due("written(2, 2, 2)", x.written(2, 2, 2), 0);
        due("written(2, 2, -1)", x.written(2, 2, -1), 0);
        due("written(2, 3, 0)", x.written(2, 3, 0), 0);
        due("written(2, -1, 0)", x.written(2, -1, 0), 0);
        due("written(3, 0, 1)", x.written(3, 0, 1), 0);
        due("written(-1, 0, 1)", x.written(-1, 0, 1), 0);

        x.retype(2, Rows.join(Rows.row(0, 7), Rows.times(25, 15)));
        due("all are counted", x.of(2, 3), 25);
        due("of(2, 7)", x.of(2, 7), 0);
        due("written(2, 19, 1)", x.written(2, 19, 1), 7);
        due("written(2, 20, 1)", x.written(2, 20, 1), 0);
        x.retype(2, 0, 6, 15, 0, 0, 11);
        due("what was written stays", x.written(2, 0, 1), 6);
        due("nothing of the RUN before", x.written(2, 1, 1), 0);
        due("of(2, 0)", x.of(2, 0), 1);
        due("of(2, 1)", x.of(2, 1), 2);
        due("of(2, 2), with the act that FAILS", x.of(2, 2), 4);
        due("of(2, 3)", x.of(2, 3), 1);

        // the parent, all CODE of a CLASS, and one EDITION once
        newCell(x, 6, 1, 3, 0, 1, 0, 5, 1, 9, 17, 3, 3);
        due("two VALUES at the end of a METHOD: no CELL", x.of(3, 0), -3);
        due("the tape stays", x.wipe(), 10);
        newCell(x, 6, 1, 3, 0, 1, 0, 6, 1, 9, 17, 3, 3, 13, 1, 9);
        due("of(3, 7)", x.of(3, 7), 2);
        due("leans(3, 0)", x.leans(3, 0), 0);
        due("leans(3, 1)", x.leans(3, 1), 1);
        due("edition of it", x.edition(x.newest(6), 5), 0);
    }

    // ---- promises 13, 15

    private static void editions() {
        part = "promises 13, 15";
        Book x = new Book();
        newCell(x, 3, 1, -1, 0, 0);
        newCell(x, 4, 1, 3, 0, 0, 0, 1);
        newCell(x, 0, 0, 0, -3);
        newCell(x, 1, 0, 2, 4);
        x.rerun(0);
        x.type(1, 2, 3);
        int[][] wants = {
            {3, 0, 0, 1, 0, -1, 1, 0},
            {4, 0, 1, 1, 1, 0, 1, 1},
            {0, 0, 2, 0, 1, 0, -3, 0},
            {1, 0, 3, 0, 1, 1, 0, 0},
            {3, 1, 0, 1, 1, -1, 0, 0}};
        for (int e = 0; e < wants.length; e++) {
            for (int what = 0; what < 8; what++) {
                due("edition(" + e + ", " + what + ")", x.edition(e, what), wants[e][what]);
            }
            due("edition(" + e + ", 8)", x.edition(e, 8), -3);
            due("edition(" + e + ", -1)", x.edition(e, -1), -3);
        }
        due("edition(5, 0)", x.edition(5, 0), -3);
        due("edition(-1, 0)", x.edition(-1, 0), -3);
        due("count(0)", x.count(0), 5);
        due("count(1)", x.count(1), 1);
        due("count(2)", x.count(2), 4);
        due("count(3)", x.count(3), 3);
        due("count(4)", x.count(4), -1);
        due("count(-1)", x.count(-1), -1);
        x.convert(0, 3);
        due("one that was carried over is made of it, too", x.edition(4, 7), 1);
        due("without its START", x.edition(4, 6), 0);
    }

    // ---- acts

    private static void comes(int want, int... code) {
        Book x = bookForActs();
        newCell(x, 9, 0, code);
        String told = java.util.Arrays.toString(code);
        due("OUTCOME of " + told, x.of(5, 0), 0);
        due("VALUE of " + told, x.edition(5, 6), want);
    }

    private static void fails(int kind, int steps, int... code) {
        Book x = bookForActs();
        newCell(x, 9, 0, code);
        String told = java.util.Arrays.toString(code);
        due("OUTCOME of " + told, x.of(5, 0), 1);
        due("FAILURE of " + told, x.of(5, 1), kind);
        due("STEPS of " + told, x.of(5, 2), steps);
        due("no EDITION of " + told, x.of(5, 4), -1);
    }

    /** NAMES: 0 and 1 CLASSES (1 below 0), 2 an OBJECT of 0 (number 0), 3 one of 1 (number 1), 4 the int 5. */
    private static Book bookForActs() {
        Book x = new Book();
        newCell(x, 0, 1, -1, 2, 0, 10, 1, 11, 2, 0, 4, 17, 0, 1, 8, 1, 1, 16);
        newCell(x, 1, 1, 0, 2, 1, 21, 2, 22, 1, 0, 4, 17, 0, 2, 8);
        newCell(x, 2, 0, 2, 0);
        newCell(x, 3, 0, 2, 1);
        newCell(x, 4, 0, 0, 5);
        return x;
    }

    private static void acts() {
        part = "acts";
        int min = Integer.MIN_VALUE;
        int max = Integer.MAX_VALUE;
        comes(min, 0, min);
        comes(5, 1, 4);
        comes(1, 1, 3);
        comes(2, 2, 0);
        comes(1, 1, 2, 3, 0);
        comes(0, 1, 2, 3, 1);
        comes(1, 1, 3, 3, 0);
        comes(1, 1, 3, 3, 1);
        comes(0, 0, 0, 3, 0);
        comes(1, 1, 3, 4, 0);
        fails(5, 2, 1, 2, 4, 1);
        fails(5, 2, 0, 0, 4, 0);
        comes(10, 1, 2, 5, 0);
        comes(21, 1, 3, 5, 1);
        comes(22, 1, 3, 5, 2);
        comes(10, 1, 3, 5, 0);
        fails(3, 2, 1, 2, 5, 2);
        fails(1, 2, 0, 1, 5, 0);
        comes(7, 1, 2, 0, 7, 6, 0);
        comes(7, 1, 2, 0, 7, 6, 0, 1, 2, 5, 0, 18);
        comes(1, 1, 2, 1, 3, 6, 0, 1, 2, 5, 0, 18);
        fails(3, 3, 1, 2, 0, 7, 6, 2);
        fails(1, 3, 0, 7, 1, 2, 6, 0);
        comes(8, 1, 2, 0, 7, 7, 0);
        comes(9, 1, 3, 0, 7, 7, 0);
        comes(1, 1, 3, 0, 7, 7, 1);
        fails(4, 3, 1, 3, 0, 7, 7, 2);
        fails(1, 3, 0, 7, 1, 3, 7, 0);
        fails(1, 3, 0, 7, 0, 7, 7, 2);
        fails(1, 6, 1, 3, 1, 3, 7, 0);
        comes(min, 0, max, 0, 1, 8);
        comes(max, 0, min, 0, 1, 9);
        comes(-2, 0, max, 0, 2, 10);
        comes(-1, 0, 1, 0, 2, 9);
        comes(3, 0, 7, 0, 2, 11);
        comes(-3, 0, -7, 0, 2, 11);
        comes(-3, 0, 7, 0, -2, 11);
        comes(min, 0, min, 0, -1, 11);
        fails(2, 3, 0, 7, 0, 0, 11);
        fails(1, 3, 1, 2, 0, 0, 11);
        for (int act = 8; act <= 12; act++) {
            fails(1, 3, 1, 2, 0, 1, act);
            fails(1, 3, 0, 1, 1, 2, act);
        }
        comes(1, 0, min, 0, max, 12);
        comes(0, 0, max, 0, min, 12);
        comes(0, 0, 3, 0, 3, 12);
        comes(1, 0, 3, 0, 3, 13);
        comes(0, 0, 3, 0, 4, 13);
        comes(1, 1, 3, 1, 3, 13);
        comes(0, 1, 3, 1, 2, 13);
        comes(0, 1, 3, 0, 1, 13);
        comes(6, 0, 1, 0, 6, 0, 7, 14);
        comes(6, 0, -1, 0, 6, 0, 7, 14);
        comes(7, 0, 0, 0, 6, 0, 7, 14);
        comes(1, 0, 0, 0, 6, 1, 3, 14);
        fails(1, 4, 1, 3, 0, 6, 0, 7, 14);
        comes(4, 0, 4, 15);
        comes(7, 0, 6, 0, 7, 18);
    }

    // ---- meaning stays

    private static void oldMeaning() {
        part = "old meaning";
        Book x = new Book();
        newCell(x, 0, 0, 0, 5);
        newCell(x, 1, 1, -1, 0, 1, 0, 2, 1, 0);
        newCell(x, 2, 1, 1, 1, 0, 3, 1, 1, 2, 2, 1);
        newCell(x, 3, 0, 2, 2);
        x.retype(0, 0, 6);
        x.retype(1, -1, 0, 1, 0, 2, 1, 0);
        x.call(0, 0, 0);
        due("METHOD of the older parent, with the older VALUE", x.came(1), 5);
        x.call(0, 1, 0);
        due("a new OBJECT of the older CLASS", x.classOf(x.came(1)), 1);
        due("came(0)", x.came(0), 1);
        due("is(0, the older)", x.is(0, 1), true);
        due("is(0, the newer)", x.is(0, 5), false);
        newCell(x, 4, 0, 1, 3, 4, 1);
        due("refused where the new one is asked for", x.of(4, 1), 5);
        newCell(x, 4, 0, 1, 3, 3, 1);
        due("no OBJECT of the new one", x.edition(x.newest(4), 6), 0);
        due("carried over", x.convert(0, 1), 2);
        due("classOf(2)", x.classOf(2), 5);
        x.call(2, 0, 0);
        due("with the new VALUE", x.came(1), 6);
    }

    // ---- starts

    private static void starts() {
        part = "starts";
        Book x = new Book();
        newCell(x, 0, 1, -1, 0, 0, 0, 1, 15);
        newCell(x, 1, 1, 0, 0, 0);
        newCell(x, 2, 1, 1, 0, 0, 0, 3, 15);
        newCell(x, 3, 0, 2, 2, 2, 2, 18);
        due("STEPS, each START once", x.of(3, 2), 7);
        due("the parent first", x.written(3, 0, 1), 1);
        due("then its own", x.written(3, 1, 1), 3);
        due("of(3, 3)", x.of(3, 3), 2);
        for (int e = 0; e < 3; e++) {
            due("edition(" + e + ", 6)", x.edition(e, 6), 1);
        }
        due("edition(2, 7)", x.edition(2, 7), 2);
        due("edition(0, 7)", x.edition(0, 7), 0);

        // a START that FAILS within one that is on the way
        x = new Book();
        newCell(x, 0, 1, -1, 0, 0, 0, 1, 15, 5, 0);
        newCell(x, 1, 1, -1, 0, 0, 2, 0);
        newCell(x, 2, 1, 1, 0, 0, 0, 1);
        newCell(x, 3, 0, 2, 2);
        due("of(3, 1)", x.of(3, 1), 6);
        due("of(3, 2)", x.of(3, 2), 5);
        due("what was written stays", x.written(3, 0, 1), 1);
        due("edition(0, 6)", x.edition(0, 6), 2);
        due("edition(1, 6)", x.edition(1, 6), 2);
        due("one whose parent failed", x.edition(2, 6), 0);
        due("rerun(3)", x.rerun(3), 1);
        due("of(3, 1) later", x.of(3, 1), 6);
        due("of(3, 2) later", x.of(3, 2), 1);
        due("no OBJECTS", x.count(1), 0);
        newCell(x, 4, 0, 2, 1);
        due("later, the parent", x.of(4, 1), 6);
        // a new EDITION of it has a START of its own
        x.retype(0, -1, 0, 0, 0, 1, 15);
        due("RUNNING ALL STALE", x.rerunStale(), 4);
        due("of(3, 0)", x.of(3, 0), 0);
    }

    /** NAME 0 a CLASS, 1 its OBJECT (number 0), whose FIELD 0 gets an OBJECT of 4, which makes one of 3, below 2. */
    private static Book bookOfRings(int... behind) {
        Book x = new Book();
        newCell(x, 0, 1, -1, 1, 0, 0, 0);
        newCell(x, 1, 0, 2, 0);
        newCell(x, 2, 1, Rows.join(Rows.row(-1, 0, 0, 1, 1, 5, 0, 0, 0, 7, 0), behind));
        newCell(x, 3, 1, 2, 0, 0, 0, 7, 15);
        newCell(x, 4, 1, -1, 0, 1, 0, 2, 2, 3);
        newCell(x, 5, 0, 1, 1, 2, 4, 6, 0);
        return x;
    }

    private static void startsOnTheWay() {
        part = "starts on the way";
        Book x = bookOfRings();
        due("cell", newCell(x, 6, 0, 2, 3), 6);
        due("of(6, 0)", x.of(6, 0), 0);
        due("its START once", x.of(6, 3), 1);
        due("of(6, 2)", x.of(6, 2), 8);
        due("edition(2, 6)", x.edition(2, 6), 1);
        due("edition(3, 6)", x.edition(3, 6), 1);
        due("edition(3, 7)", x.edition(3, 7), 2);
        due("the one in the START came first", x.edition(x.newest(6), 6), 3);

        x = bookOfRings(5, 9);
        due("cell", newCell(x, 6, 0, 2, 3), 6);
        due("of(6, 1)", x.of(6, 1), 6);
        due("the parent's failed", x.edition(2, 6), 2);
        due("its own had ended well", x.edition(3, 6), 1);
        due("its OBJECT is there", x.edition(3, 7), 1);
        due("rerun(6)", x.rerun(6), 1);
        due("below one that failed", x.of(6, 1), 6);
        due("of(6, 2)", x.of(6, 2), 1);
        due("count(1)", x.count(1), 3);
    }

    // ---- depth

    /**
     * NAME 0 a CLASS with a START, 1 one below it with a START, 2 a CLASS whose METHOD 0 makes an OBJECT of the
     * told one, 3 its OBJECT (number 0), 4 a CLASS whose METHOD 0, with argument a up to 19, calls itself with
     * a + 1, and behind that METHOD 0 of OBJECT 0; 5 its OBJECT (number 1).
     */
    private static Book bookOfDepth(int made, int... startOfUpper) {
        Book x = new Book();
        newCell(x, 0, 1, Rows.join(Rows.row(-1, 0, 0), startOfUpper));
        newCell(x, 1, 1, 0, 0, 0, 0, 1);
        newCell(x, 2, 1, -1, 0, 1, 0, 2, 2, made);
        newCell(x, 3, 0, 2, 2);
        newCell(x, 4, 1, -1, 0, 1, 0, 14, 17, 0, 19, 12, 16, 1, 3, 14, 17, 0, 1, 8, 7, 0);
        newCell(x, 5, 0, 2, 4);
        return x;
    }

    private static void depth() {
        part = "depth";
        Book x = bookOfDepth(0, 0, 1);
        due("a METHOD within 20 others", x.call(1, 0, 0), 1);
        due("came(2)", x.came(2), 7);
        due("came(3)", x.came(3), 200);
        due("a START within 20 others", x.call(1, 0, 1), 1);
        due("came(2)", x.came(2), 7);
        due("came(3)", x.came(3), 191);
        due("it isn't begun", x.edition(0, 6), 0);
        due("a START within 19 others", x.call(1, 0, 2), 0);
        due("came(0)", x.came(0), 1);
        due("came(1)", x.came(1), 2);
        due("came(3)", x.came(3), 182);
        due("it is begun", x.edition(0, 6), 1);
        due("no START to be worked", x.call(1, 0, 1), 0);

        x = bookOfDepth(1);
        due("a START within 20 others", x.call(1, 0, 1), 1);
        due("came(2)", x.came(2), 7);
        due("its parent has none, and is begun", x.edition(0, 6), 1);
        due("it isn't begun", x.edition(1, 6), 0);

        // in a CELL: its CODE is neither a METHOD nor a START
        x = bookOfDepth(0, 0, 1);
        newCell(x, 6, 0, 1, 5, 0, 1, 7, 0);
        due("of(6, 1)", x.of(6, 1), 7);
        due("of(6, 2)", x.of(6, 2), 194);
        newCell(x, 6, 0, 1, 5, 0, 2, 7, 0);
        due("of(7, 0)", x.of(7, 0), 0);

        // DEEP within a START on the way: that fails, the deeper one isn't begun
        x = bookOfDepth(0, 0, 1);
        newCell(x, 6, 1, -1, 0, 0, 1, 5, 0, 2, 7, 0);
        newCell(x, 7, 0, 2, 6);
        due("of(7, 1)", x.of(7, 1), 6);
        due("edition of the outer", x.edition(x.newest(6), 6), 2);
        due("edition of the deeper", x.edition(0, 6), 0);
    }

    // ---- steps

    /** NAME 0 a CLASS whose METHOD 0 makes 139 STEPS, 1 its OBJECT (number 0). */
    private static Book bookOfSteps() {
        Book x = new Book();
        int[] ends = Rows.times(4, 18);
        newCell(x, 0, 1, Rows.join(Rows.row(-1, 0, 3, 0, 24), Rows.times(5, 16, 17, 7, 1), ends,
            Rows.row(1, 24), Rows.times(5, 16, 17, 7, 2), ends, Rows.row(2, 1, 17)));
        newCell(x, 1, 0, 2, 0);
        return x;
    }

    private static void steps() {
        part = "steps";
        int[] thousand = Rows.join(Rows.times(7, 1, 1, 0, 1, 7, 0), Rows.times(6, 18));
        Book x = bookOfSteps();
        x.call(0, 0, 6);
        due("came(1)", x.came(1), 6);
        due("came(3)", x.came(3), 139);
        newCell(x, 2, 0, thousand);
        due("1,000 STEPS", x.of(2, 0), 0);
        due("of(2, 2)", x.of(2, 2), 1000);
        due("redo with 1,001", x.retype(2, Rows.join(thousand, Rows.row(15))), 2);
        due("of(2, 0)", x.of(2, 0), 2);
        due("of(2, 1)", x.of(2, 1), 0);
        due("of(2, 2)", x.of(2, 2), 1000);
        due("of(2, 3)", x.of(2, 3), 0);
        due("of(2, 4)", x.of(2, 4), -1);
        due("rerun", x.rerun(2), 2);

        newCell(x, 3, 1, Rows.join(Rows.row(-1, 0, 0), thousand));
        newCell(x, 4, 0, 2, 3);
        due("SPENT in a START", x.of(4, 0), 2);
        due("of(4, 2)", x.of(4, 2), 1000);
        due("that START failed", x.edition(x.newest(3), 6), 2);
        due("later", x.rerun(4), 1);
        due("of(4, 1)", x.of(4, 1), 6);

        newCell(x, 5, 1, Rows.join(Rows.row(-1, 0, 1, 4, 48), thousand));
        newCell(x, 6, 0, 2, 5);
        due("1,000 by hand", x.call(1, 4, 0), 0);
        due("came(3)", x.came(3), 1000);
        x.retype(5, Rows.join(Rows.row(-1, 0, 1, 4, 49), thousand, Rows.row(15)));
        x.rerun(6);
        due("1,001 by hand", x.call(2, 4, 0), 2);
        for (int what = 0; what < 3; what++) {
            due("came(" + what + ")", x.came(what), 0);
        }
        due("came(3)", x.came(3), 1000);
    }

    // ---- promises 16 to 21

    private static void objects() {
        part = "promises 16 to 18";
        Book x = bookForActs();
        due("classOf(0)", x.classOf(0), 0);
        due("classOf(1)", x.classOf(1), 1);
        due("classOf(2)", x.classOf(2), -1);
        due("classOf(-1)", x.classOf(-1), -1);
        newCell(x, 9, 0, 1, 3, 1, 2, 6, 2);
        due("field(1, 2, 0)", x.field(1, 2, 0), 1);
        due("field(1, 2, 1)", x.field(1, 2, 1), 0);
        due("field(1, 1, 0)", x.field(1, 1, 0), 0);
        due("field(1, 1, 1)", x.field(1, 1, 1), 21);
        due("field(1, 0, 1)", x.field(1, 0, 1), 10);
        due("field(1, 3, 0)", x.field(1, 3, 0), -1);
        due("field(1, 3, 1)", x.field(1, 3, 1), 0);
        due("field(1, 10, 0)", x.field(1, 10, 0), -1);
        due("field(1, -1, 0)", x.field(1, -1, 0), -1);
        due("field(1, -1, 1)", x.field(1, -1, 1), 0);
        due("field(2, 0, 0)", x.field(2, 0, 0), -1);
        due("field(2, 0, 1)", x.field(2, 0, 1), 0);
        due("field(-1, 0, 0)", x.field(-1, 0, 0), -1);
        due("is(0, 0)", x.is(0, 0), true);
        due("is(0, 1)", x.is(0, 1), false);
        due("is(1, 0)", x.is(1, 0), true);
        due("is(1, 1)", x.is(1, 1), true);
        due("is(1, 2), a VALUE", x.is(1, 2), false);
        due("is(1, -1)", x.is(1, -1), false);
        due("is(1, 99)", x.is(1, 99), false);
        due("is(2, 0)", x.is(2, 0), false);
        due("is(-1, 0)", x.is(-1, 0), false);
    }

    private static void calls() {
        part = "promises 19, 20";
        Book x = bookForActs();
        due("call(0, 0, 5)", x.call(0, 0, 5), 0);
        due("came(0)", x.came(0), 0);
        due("came(1)", x.came(1), 6);
        due("came(2)", x.came(2), 0);
        due("came(3)", x.came(3), 3);
        due("came(4)", x.came(4), 0);
        due("came(-1)", x.came(-1), 0);
        due("call(2, 0, 5)", x.call(2, 0, 5), -1);
        due("call(-1, 0, 5)", x.call(-1, 0, 5), -1);
        due("call(0, 5, 5)", x.call(0, 5, 5), -1);
        due("call(0, -1, 5)", x.call(0, -1, 5), -1);
        due("of the latest that wasn't refused", x.came(1), 6);
        due("the nearest METHOD", x.call(1, 0, 5), 0);
        due("came(1)", x.came(1), 7);
        due("the parent's METHOD", x.call(1, 1, 5), 0);
        due("came(0)", x.came(0), 1);
        due("came(1)", x.came(1), 1);
        due("no such METHOD", x.call(1, 4, 5), 1);
        due("came(0)", x.came(0), 0);
        due("came(1)", x.came(1), 0);
        due("came(2)", x.came(2), 4);
        due("came(3)", x.came(3), 0);
        newCell(x, 5, 1, -1, 1, 0, 0, 1, 0, 6, 16, 17, 15, 6, 0, 15);
        newCell(x, 6, 0, 2, 5);
        due("what FIELDS got", x.call(2, 0, 33), 0);
        due("field(2, 0, 1)", x.field(2, 0, 1), 33);
        due("told by nobody", x.of(6, 3), 0);
        x.retype(5, -1, 1, 0, 0, 1, 0, 7, 16, 17, 6, 0, 0, 0, 11);
        x.rerun(6);
        due("FAILED", x.call(3, 0, 44), 1);
        due("came(2)", x.came(2), 2);
        due("came(3)", x.came(3), 5);
        due("what FIELDS got stays", x.field(3, 0, 1), 44);
    }

    private static void convert() {
        part = "promise 21";
        Book x = bookForActs();
        due("convert(2, 0)", x.convert(2, 0), -1);
        due("convert(-1, 0)", x.convert(-1, 0), -1);
        due("convert(0, 4), a VALUE", x.convert(0, 4), -1);
        due("convert(0, 9), no EDITION", x.convert(0, 9), -1);
        due("convert(0, 16)", x.convert(0, 16), -1);
        due("convert(0, -1)", x.convert(0, -1), -1);
        newCell(x, 5, 1, -1, 2, 0, 1, 7, 70, 0, 0, 9, 15, 5, 0);
        newCell(x, 9, 0, 1, 3, 1, 2, 6, 0);
        due("convert(1, 5)", x.convert(1, 5), 2);
        due("field(2, 0, 0)", x.field(2, 0, 0), 1);
        due("field(2, 0, 1)", x.field(2, 0, 1), 0);
        due("field(2, 7, 1)", x.field(2, 7, 1), 70);
        due("a FIELD that the new CLASS hasn't", x.field(2, 1, 0), -1);
        due("without its START", x.edition(5, 6), 0);
        due("the older OBJECT is as it was", x.classOf(1), 1);
        newCell(x, 8, 0, 2, 5);
        due("its START fails", x.edition(5, 6), 2);
        due("also then", x.convert(1, 5), 3);
        x.forget(5);
        due("FORGOTTEN", x.convert(1, 5), -1);
        newCell(x, 6, 1, -1, 0, 0, 0, 9, 15);
        for (int o = 4; o < 150; o++) {
            due("convert", x.convert(0, 0), o);
        }
        due("150 OBJECTS", x.convert(0, 0), -2);
        due("150 OBJECTS, no CLASS", x.convert(0, 4), -1);
        due("count(1)", x.count(1), 150);
        newCell(x, 10, 0, 2, 6);
        due("FAILURE FULL", x.of(x.count(2) - 1, 1), 8);
        due("behind its START", x.of(x.count(2) - 1, 3), 1);
        due("which ended well", x.edition(x.newest(6), 6), 1);
    }

    // ---- promises 22, 23

    private static void images() {
        part = "promises 22, 23";
        Book x = bookForActs();
        due("keep(-1)", x.keep(-1), false);
        due("keep(2)", x.keep(2), false);
        due("back(-1)", x.back(-1), false);
        due("back(2)", x.back(2), false);
        due("back(0), nothing is", x.back(0), false);
        due("keep(0)", x.keep(0), true);
        due("back(1), nothing is", x.back(1), false);
        newCell(x, 6, 0, 1, 2, 0, 99, 6, 0);
        x.retype(4, 0, 8);
        newCell(x, 7, 1, 0, 0, 0);
        x.forget(3);
        x.call(0, 0, 41);
        due("keep(1)", x.keep(1), true);
        x.type(1, 2, 3);
        due("back(0)", x.back(0), true);
        due("the tape isn't", x.count(3), 3);
        due("came() isn't", x.came(1), 42);
        due("count(0)", x.count(0), 5);
        due("count(2)", x.count(2), 5);
        due("newest(3)", x.newest(3), 3);
        due("newest(4)", x.newest(4), 4);
        due("newest(7)", x.newest(7), -1);
        due("field(0, 0, 1)", x.field(0, 0, 1), 10);
        due("of(4, 4)", x.of(4, 4), 4);
        due("the TEXT, too", x.rerun(4), 0);
        due("its VALUE", x.edition(5, 6), 5);
        due("back(0), it stays kept", x.back(0), true);
        due("count(0)", x.count(0), 5);
        due("back(1)", x.back(1), true);
        due("field(0, 0, 1)", x.field(0, 0, 1), 99);
        due("count(0)", x.count(0), 8);
        due("newest(3)", x.newest(3), -1);
        due("keep(0) anew", x.keep(0), true);
        newCell(x, 8, 0, 0, 1);
        due("back(0)", x.back(0), true);
        due("count(0)", x.count(0), 8);

        // whether a START was begun is kept, too
        x = new Book();
        newCell(x, 0, 1, -1, 0, 0, 0, 1, 5, 0);
        x.keep(0);
        newCell(x, 1, 0, 2, 0);
        due("edition(0, 6)", x.edition(0, 6), 2);
        x.back(0);
        due("edition(0, 6) behind back(0)", x.edition(0, 6), 0);
    }

    private static Book bookForWild(int kind) {
        switch (kind) {
            case 0:
                return new Book();
            case 1:
                return bookForActs();
            default:
                return bookOfDepth(0, 0, 1);
        }
    }

    private static void wildNumber(Book x, int a) {
        x.put(a, a, a, a, a);
        x.redo(a);
        x.rerun(a);
        x.forget(a);
        x.stale(a);
        x.count(a);
        x.newest(a);
        x.classOf(a);
        x.came(a);
        x.keep(a);
        x.back(a);
        x.rerunStale();
    }

    private static void wildPair(Book x, int a, int b) {
        x.cell(a, b);
        x.of(a, b);
        x.leans(a, b);
        x.edition(a, b);
        x.is(a, b);
        x.convert(a, b);
    }

    /** Any arguments, in an empty book and in one that isn't: no call may throw. */
    private static void wildArguments() {
        part = "wild arguments";
        int[] wild = {Integer.MIN_VALUE, -101, -3, -2, -1, 0, 1, 2, 15, 16, 39, 40, 149, 150, Integer.MAX_VALUE};
        for (int kind = 0; kind < 3; kind++) {
            for (int a : wild) {
                wildNumber(bookForWild(kind), a);
                for (int b : wild) {
                    Book x = bookForWild(kind);
                    wildPair(x, a, b);
                    for (int c : wild) {
                        x.written(a, b, c);
                        x.field(a, b, c);
                        x.call(a, b, c);
                    }
                }
            }
        }
        due("it came here", 1, 1);
    }

    public static void main(String[] args) {
        newObject();
        tape();
        cell();
        faultsOfCode();
        faultsOfClasses();
        redoAndRerun();
        rerunStale();
        forgetAndStale();
        told();
        editions();
        acts();
        oldMeaning();
        starts();
        startsOnTheWay();
        depth();
        steps();
        objects();
        calls();
        convert();
        images();
        wildArguments();
        System.out.println(wrong == 0 ? asked + " answers are as due" : wrong + " answers are not as due");
        if (wrong != 0) {
            System.exit(1);
        }
    }
}
