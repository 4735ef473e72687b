/**
 * An EditionBook that counts its calls. Nothing is promised behind the 512th, so a test that goes
 * there is wrong itself.
 */
final class Book {
    private static final int CALLS_MOST = 512;

    private final EditionBook book = new EditionBook();
    private int calls = 0;

    private EditionBook next() {
        calls++;
        if (calls > CALLS_MOST) {
            throw new IllegalStateException("the test uses a book beyond its 512th call");
        }
        return book;
    }

    // ---- the face

    int put(int n, int a, int b, int c, int d) {
        return next().put(n, a, b, c, d);
    }

    int wipe() {
        return next().wipe();
    }

    int cell(int name, int sort) {
        return next().cell(name, sort);
    }

    int redo(int c) {
        return next().redo(c);
    }

    int rerun(int c) {
        return next().rerun(c);
    }

    int rerunStale() {
        return next().rerunStale();
    }

    int forget(int name) {
        return next().forget(name);
    }

    int of(int c, int what) {
        return next().of(c, what);
    }

    int leans(int c, int i) {
        return next().leans(c, i);
    }

    boolean stale(int c) {
        return next().stale(c);
    }

    int written(int c, int i, int what) {
        return next().written(c, i, what);
    }

    int count(int what) {
        return next().count(what);
    }

    int newest(int name) {
        return next().newest(name);
    }

    int edition(int e, int what) {
        return next().edition(e, what);
    }

    int classOf(int o) {
        return next().classOf(o);
    }

    int field(int o, int f, int what) {
        return next().field(o, f, what);
    }

    boolean is(int o, int e) {
        return next().is(o, e);
    }

    int call(int o, int m, int argument) {
        return next().call(o, m, argument);
    }

    int came(int what) {
        return next().came(what);
    }

    int convert(int o, int name) {
        return next().convert(o, name);
    }

    boolean keep(int place) {
        return next().keep(place);
    }

    boolean back(int place) {
        return next().back(place);
    }

    // ---- short forms

    /** The tape has just these ints. */
    void type(int... ints) {
        wipe();
        for (int i = 0; i < ints.length; i += 4) {
            put(Math.min(4, ints.length - i), at(ints, i), at(ints, i + 1), at(ints, i + 2), at(ints, i + 3));
        }
    }

    private static int at(int[] ints, int i) {
        return i < ints.length ? ints[i] : 0;
    }

    int value(int name, int... text) {
        type(text);
        return cell(name, 0);
    }

    int clazz(int name, int... text) {
        type(text);
        return cell(name, 1);
    }

    int retype(int c, int... text) {
        type(text);
        return redo(c);
    }

    /** OBJECTS of a NAME come until there are so many, by CELLS of another NAME. */
    void makeObjects(int ofName, int byName, int upTo) {
        for (int has = count(1); has < upTo; has = count(1)) {
            int many = Math.min(20, upTo - has);
            value(byName, Rows.join(Rows.row(2, ofName), Rows.times(many - 1, 2, ofName, 18)));
        }
    }

    /** EDITIONS come until there are so many, by a CELL that is run again. */
    void makeEditions(int c, int upTo) {
        for (int has = count(0); has < upTo; has++) {
            rerun(c);
        }
    }
}
