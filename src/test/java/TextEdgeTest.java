import java.util.Arrays;

/** Terms 1, sentence by sentence: what a TEXT may be, when it is RIGHT, and where its FAULT is. */
public final class TextEdgeTest {
    private static final int VALUE = 0;
    private static final int CLASS = 1;
    private static final int MIN = Integer.MIN_VALUE;
    private static final int MAX = Integer.MAX_VALUE;
    private static final int CELLS = 9;

    /** How many VALUES each act takes. */
    private static final int[] TAKES = {0, 0, 0, 1, 1, 1, 2, 2, 2, 2, 2, 2, 2, 2, 3, 1, 0, 0, 2};

    /**
     * NAME 0 is an int, 13 an OBJECT, 1 a CLASS; 2 was an int and 3 a CLASS, both FORGOTTEN; 14 is an int
     * that was a CLASS, 15 a CLASS that was an int; 4 to 12 never were.
     */
    private static Book shelf() {
        Book x = new Book();
        x.value(0, 0, 7);
        x.clazz(1, -1, 0, 0);
        x.value(2, 0, 7);
        x.forget(2);
        x.clazz(3, -1, 0, 0);
        x.forget(3);
        x.clazz(14, -1, 0, 0);
        x.value(14, 0, 7);
        x.value(15, 0, 7);
        x.clazz(15, -1, 0, 0);
        x.value(13, 2, 1);
        return x;
    }

    private static String told(int sort, int[] text) {
        return (sort == VALUE ? "VALUE " : "CLASS ") + Arrays.toString(text);
    }

    private static void right(int sort, int... text) {
        Book x = shelf();
        x.type(text);
        Check.due("cell of " + told(sort, text), x.cell(4, sort), CELLS);
        Check.due("the tape behind it", x.count(3), 0);
        x.type(text);
        Check.due("redo of " + told(sort, text) + " isn't refused", x.redo(sort) >= 0, true);
        Check.due("rerun of " + told(sort, text) + " isn't refused", x.rerun(CELLS) >= 0, true);
    }

    private static void fault(int place, int sort, int... text) {
        Book x = shelf();
        x.type(text);
        Check.due("cell of " + told(sort, text), x.cell(4, sort), -100 - place);
        // CELL 0 is a VALUE, CELL 1 a CLASS
        Check.due("redo of " + told(sort, text), x.redo(sort), -100 - place);
        Check.due("the tape behind it", x.count(3), text.length);
        Check.due("CELLS behind it", x.count(2), CELLS);
        Check.due("EDITIONS behind it", x.count(0), CELLS);
    }

    /** The CODE of METHOD 4, with a START behind it, which could lend it ints if its length didn't end it. */
    private static int[] asMethod(int... code) {
        return Rows.join(Rows.row(-1, 0, 1, 4, code.length), code, Rows.row(0, 1));
    }

    private static int[] asStart(int... code) {
        return Rows.join(Rows.row(-1, 0, 0), code);
    }

    private static void rightCode(int... code) {
        right(VALUE, code);
        right(CLASS, asMethod(code));
        right(CLASS, asStart(code));
    }

    private static void faultOfCode(int place, int... code) {
        fault(place, VALUE, code);
        fault(5 + place, CLASS, asMethod(code));
        fault(3 + place, CLASS, asStart(code));
    }

    // ---- names

    private static void names() {
        Check.sentence("Terms 1", "NAMES are 0 .. 15 (in acts)");
        rightCode(1, 0);
        rightCode(2, 15);
        rightCode(0, 1, 3, 15);
        rightCode(0, 1, 4, 15);
        for (int n : new int[] {-1, 16, MIN, MAX}) {
            faultOfCode(0, 1, n);
            faultOfCode(0, 2, n);
            faultOfCode(2, 0, 1, 3, n);
            faultOfCode(2, 0, 1, 4, n);
        }

        Check.sentence("Terms 1", "FIELD names 0 .. 9 (in acts)");
        for (int f : new int[] {0, 9}) {
            rightCode(0, 1, 5, f);
            rightCode(0, 1, 0, 1, 6, f);
        }
        for (int f : new int[] {-1, 10, MIN, MAX}) {
            faultOfCode(2, 0, 1, 5, f);
            faultOfCode(4, 0, 1, 0, 1, 6, f);
        }

        Check.sentence("Terms 1", "METHOD names 0 .. 4 (in acts)");
        for (int m : new int[] {0, 4}) {
            rightCode(0, 1, 0, 1, 7, m);
        }
        for (int m : new int[] {-1, 5, MIN, MAX}) {
            faultOfCode(4, 0, 1, 0, 1, 7, m);
        }
    }

    private static void lengthOfTexts() {
        Check.sentence("Terms 1", "A TEXT is a row of at most 60 ints");
        int[] sixty = Rows.join(Rows.times(20, 0, 1), Rows.times(19, 8), Rows.row(15));
        Check.due("its length", sixty.length, 60);
        right(VALUE, sixty);
        right(CLASS, Rows.join(Rows.row(-1, 0, 0), Rows.times(19, 0, 1), Rows.times(18, 8), Rows.row(15)));
        Book x = new Book();
        Check.due("cell", x.value(0, sixty), 0);
        Check.due("of(0, 8)", x.of(0, 8), 60);
        Check.due("20 ones", x.edition(0, 6), 20);
        x.type(sixty);
        Check.due("a 61st int", x.put(1, 0, 0, 0, 0), EditionBook.FULL);
    }

    // ---- acts

    private static void comes(int want, int... code) {
        Book x = shelf();
        Check.due("cell of " + told(VALUE, code), x.value(4, code), CELLS);
        Check.due("OUTCOME of " + told(VALUE, code), x.of(CELLS, 0), 0);
        Check.due("VALUE of " + told(VALUE, code), x.edition(CELLS, 6), want);
    }

    private static void fails(int kind, int... code) {
        Book x = shelf();
        Check.due("cell of " + told(VALUE, code), x.value(4, code), CELLS);
        Check.due("OUTCOME of " + told(VALUE, code), x.of(CELLS, 0), 1);
        Check.due("FAILURE of " + told(VALUE, code), x.of(CELLS, 1), kind);
    }

    private static void whatActsPut() {
        Check.sentence("Terms 1", "0 k: puts the int k (any int, also one that is an act)");
        for (int k : new int[] {MIN, -1, 0, 18, 19, MAX}) {
            rightCode(0, k);
            comes(k, 0, k);
        }

        Check.sentence("Terms 1", "each act takes VALUES from a pile (the last ones first)");
        comes(3, 0, 5, 0, 2, 9);
        comes(2, 0, 5, 0, 2, 11);
        comes(0, 0, 5, 0, 2, 12);
        comes(2, 0, 5, 0, 2, 18);
        comes(11, 0, 10, 0, 6, 0, 5, 9, 8);

        Check.sentence("Terms 1", "each act takes VALUES from a pile and puts one on it (what is below them stays)");
        int[][] tens = {
            {0, 10}, {1, 0, 0, 3, 8}, {2, 1, 0, 10, 18}, {0, 9, 1, 13, 3, 1, 8}, {0, 10, 1, 13, 4, 1, 3, 15, 8},
            {0, 2, 0, 8, 8}, {0, 12, 0, 2, 9}, {0, 5, 0, 2, 10}, {0, 21, 0, 2, 11}, {0, 9, 0, 1, 0, 2, 12, 8},
            {0, 9, 0, 1, 0, 1, 13, 8}, {0, 0, 0, 5, 0, 10, 14}, {0, 10, 15}, {0, 4, 0, 10, 18}};
        for (int[] ten : tens) {
            comes(1010, Rows.join(Rows.row(0, 7, 0, 1000), ten, Rows.row(8, 18)));
            comes(990, Rows.join(Rows.row(0, 1000), ten, Rows.row(9)));
        }

        Check.sentence("Terms 1", "3 n: puts 1 if it is an OBJECT of NAME n or below it, else 0 (also of an int)");
        comes(1, 1, 13, 3, 1);
        comes(0, 1, 13, 3, 15);
        comes(0, 0, 0, 3, 1);

        Check.sentence("Terms 1", "4 n: puts it again, if it is such an OBJECT; else FAILURE EDITION (also of an int)");
        comes(0, 1, 13, 4, 1);
        fails(5, 1, 13, 4, 15);
        fails(5, 0, 0, 4, 1);

        Check.sentence("Terms 1", "8, 9, 10: put a + b, a - b, a * b (wrapping)");
        comes(MIN, 0, MAX, 0, 1, 8);
        comes(MAX, 0, MIN, 0, -1, 8);
        comes(MAX, 0, MIN, 0, 1, 9);
        comes(MIN, 0, MAX, 0, -1, 9);
        comes(MIN, 0, 0, 0, MIN, 9);
        comes(-2, 0, MAX, 0, 2, 10);
        comes(0, 0, MIN, 0, 2, 10);
        comes(MIN, 0, MIN, 0, -1, 10);
        comes(1, 0, MAX, 0, MAX, 10);

        Check.sentence("Terms 1", "11: a / b towards 0 (FAILURE ZERO if b is 0)");
        comes(3, 0, 7, 0, 2, 11);
        comes(-3, 0, -7, 0, 2, 11);
        comes(-3, 0, 7, 0, -2, 11);
        comes(3, 0, -7, 0, -2, 11);
        comes(0, 0, 1, 0, MIN, 11);
        comes(0, 0, 0, 0, 5, 11);
        comes(MIN, 0, MIN, 0, -1, 11);
        comes(MIN, 0, MIN, 0, 1, 11);
        fails(2, 0, 7, 0, 0, 11);
        fails(2, 0, 0, 0, 0, 11);
        fails(2, 0, MIN, 0, 0, 11);

        Check.sentence("Terms 1", "12: puts 1 if a is below b, else 0");
        comes(1, 0, 4, 0, 5, 12);
        comes(0, 0, 5, 0, 5, 12);
        comes(0, 0, 6, 0, 5, 12);
        comes(1, 0, MIN, 0, MAX, 12);
        comes(0, 0, MAX, 0, MIN, 12);

        Check.sentence("Terms 1", "13: puts 1 if they are one int, or one OBJECT, else 0");
        comes(1, 0, MIN, 0, MIN, 13);
        comes(0, 0, 0, 0, 1, 13);
        comes(1, 1, 13, 1, 13, 13);
        comes(0, 1, 13, 2, 1, 13);
        comes(0, 1, 13, 0, 0, 13);
        comes(0, 0, 0, 1, 13, 13);

        Check.sentence("Terms 1", "14: puts a if c isn't 0, else b");
        for (int c : new int[] {MIN, -1, 1, MAX}) {
            comes(6, 0, c, 0, 6, 0, 7, 14);
        }
        comes(7, 0, 0, 0, 6, 0, 7, 14);
        comes(7, 0, 0, 1, 13, 0, 7, 14);
        comes(6, 0, 1, 0, 6, 1, 13, 14);
    }

    /** NAME 0 a CLASS whose METHOD 0 ends with its argument, 1 one below it; 2 an OBJECT of 1 (number 0), 3 one of 0 (1). */
    private static Book bookOfFields() {
        Book x = new Book();
        x.clazz(0, -1, 4, 0, 100, 1, 101, 2, 102, 3, 103, 1, 0, 1, 17);
        x.clazz(1, 0, 4, 4, 104, 5, 105, 6, 106, 7, 107, 0);
        x.clazz(1, 1, 2, 8, 108, 9, 109, 0);
        x.value(2, 2, 1);
        x.value(3, 2, 0);
        return x;
    }

    private static void ended(Book x, int c, int kind, int number) {
        Check.due("OUTCOME", x.of(c, 0), 0);
        Check.due("kind of the VALUE", x.edition(x.of(c, 4), 5), kind);
        Check.due("the VALUE", x.edition(x.of(c, 4), 6), number);
    }

    private static void fieldsAndMethods() {
        Check.sentence("Terms 1", "5 f: puts what its FIELD f has (each of the ten)");
        Book x = bookOfFields();
        for (int f = 0; f < 10; f++) {
            ended(x, x.value(4, 0, 1, 1, 2, 5, f, 8), 0, 101 + f);
        }

        Check.sentence("Terms 1", "6 f: the FIELD f of that gets the VALUE, which is put (an int)");
        for (int f = 0; f < 10; f++) {
            ended(x, x.value(4, 0, 1, 1, 2, 0, -f, 6, f, 8), 0, 1 - f);
            Check.due("field(0, " + f + ", 0)", x.field(0, f, 0), 0);
            Check.due("field(0, " + f + ", 1)", x.field(0, f, 1), -f);
        }
        Check.due("none of another OBJECT", x.field(1, 3, 1), 103);

        Check.sentence("Terms 1", "6 f: the FIELD f of that gets the VALUE, which is put (an OBJECT)");
        x = bookOfFields();
        for (int f = 0; f < 10; f++) {
            ended(x, x.value(4, 0, 1, 1, 2, 1, 3, 6, f, 18), 1, 1);
            Check.due("field(0, " + f + ", 0)", x.field(0, f, 0), 1);
            Check.due("field(0, " + f + ", 1)", x.field(0, f, 1), 1);
            ended(x, x.value(5, 1, 2, 5, f), 1, 1);
        }
        // an int again, and the OBJECT itself
        ended(x, x.value(6, 1, 2, 0, 5, 6, 9), 0, 5);
        Check.due("field(0, 9, 0)", x.field(0, 9, 0), 0);
        ended(x, x.value(6, 1, 2, 1, 2, 6, 9), 1, 0);
        Check.due("field(0, 9, 0)", x.field(0, 9, 0), 1);
        Check.due("field(0, 9, 1)", x.field(0, 9, 1), 0);

        Check.sentence("Terms 1", "7 m: that VALUE being the argument (an int, an OBJECT, the OBJECT itself)");
        x = bookOfFields();
        ended(x, x.value(4, 0, 3, 1, 2, 0, MIN, 7, 0, 18), 0, MIN);
        ended(x, x.value(4, 0, 3, 1, 2, 1, 3, 7, 0, 18), 1, 1);
        ended(x, x.value(4, 0, 3, 1, 2, 1, 2, 7, 0, 18), 1, 0);
        ended(x, x.value(4, 0, 3, 1, 2, 0, 4, 7, 0, 8), 0, 7);

        Check.sentence("Terms 1", "1 n: puts the VALUE of NAME n; 14, 15, 18 put an OBJECT or an int");
        ended(x, x.value(4, 1, 3), 1, 1);
        ended(x, x.value(4, 0, 1, 1, 3, 0, 5, 14), 1, 1);
        ended(x, x.value(4, 0, 0, 1, 3, 0, 5, 14), 0, 5);
        ended(x, x.value(4, 0, 0, 0, 5, 1, 3, 14), 1, 1);
        ended(x, x.value(4, 1, 3, 15), 1, 1);
        ended(x, x.value(4, 0, 5, 1, 3, 18), 1, 1);
        ended(x, x.value(4, 1, 3, 0, 5, 18), 0, 5);
    }

    // ---- what is RIGHT

    private static void whatIsRight() {
        Check.sentence("Terms 1", "CODE is RIGHT if each act is one of these");
        for (int act : new int[] {-1, 19, 20, MIN, MAX}) {
            faultOfCode(0, act);
            faultOfCode(2, 0, 1, act);
            faultOfCode(4, 0, 1, 0, 1, act);
        }

        Check.sentence("Terms 1", "each act is one of these with its int");
        for (int act = 0; act <= 7; act++) {
            int[] before = Rows.times(TAKES[act], 0, 1);
            faultOfCode(before.length, Rows.join(before, Rows.row(act)));
        }
        for (int act = 8; act <= 18; act++) {
            if (act != 16 && act != 17) {
                rightCode(Rows.join(Rows.times(TAKES[act], 0, 1), Rows.row(act)));
            }
        }

        Check.sentence("Terms 1", "there are as many VALUES on the pile as it takes");
        int[] anInt = {0, 0, 1, 1, 1, 0, 0, 0};
        for (int act = 3; act <= 18; act++) {
            int[] behind = act <= 7 ? Rows.row(act, anInt[act]) : Rows.row(act);
            for (int has = 0; has < TAKES[act]; has++) {
                faultOfCode(2 * has, Rows.join(Rows.times(has, 0, 1), behind));
            }
            if (TAKES[act] > 0) {
                rightCode(Rows.join(Rows.times(TAKES[act], 0, 1), behind));
                faultOfCode(2 * TAKES[act] + 2 + behind.length,
                    Rows.join(Rows.times(TAKES[act] + 1, 0, 1), behind));
            }
        }

        Check.sentence("Terms 1", "16 and 17 stand in METHODS alone");
        for (int act = 16; act <= 17; act++) {
            fault(0, VALUE, act);
            fault(2, VALUE, 0, 1, act, 18);
            right(CLASS, asMethod(act));
            fault(3, CLASS, asStart(act));
            fault(5, CLASS, asStart(0, 1, act, 18));
            // a METHOD ahead of it doesn't make a START one
            fault(6, CLASS, -1, 0, 1, 0, 1, act, act);
        }

        Check.sentence("Terms 1", "NAME n has a newest EDITION, which is a VALUE for act 1, a CLASS for 2, 3, 4");
        for (int n : new int[] {0, 13, 14}) {
            rightCode(1, n);
            faultOfCode(0, 2, n);
            faultOfCode(2, 0, 1, 3, n);
            faultOfCode(2, 0, 1, 4, n);
        }
        for (int n : new int[] {1, 15}) {
            faultOfCode(0, 1, n);
            rightCode(2, n);
            rightCode(0, 1, 3, n);
            rightCode(0, 1, 4, n);
        }
        // FORGOTTEN, never there, and its own NAME, which has none ahead of its first RUN
        for (int n : new int[] {2, 3, 5, 12, 4}) {
            faultOfCode(0, 1, n);
            faultOfCode(0, 2, n);
            faultOfCode(2, 0, 1, 3, n);
            faultOfCode(2, 0, 1, 4, n);
        }
    }

    private static void whereTheFaultIs() {
        Check.sentence("Terms 1", "its FAULT is the first place at which an act begins that isn't so");
        faultOfCode(0, 99, 98);
        faultOfCode(2, 0, 99, 98, 97);
        faultOfCode(4, 0, 1, 0, 1, 1, 2, 5, 10);
        faultOfCode(3, 0, 1, 15, 8, 99);
        // an act of which two things aren't so, and one at whose end the pile is wrong, too
        faultOfCode(0, 5, 10);
        faultOfCode(4, 0, 1, 0, 1, 19);
        // the int of an act is no act
        faultOfCode(2, 0, 19, 19);

        Check.sentence("Terms 1", "if all are so, but the pile hasn't just one VALUE at the end, the place behind");
        fault(0, VALUE);
        faultOfCode(4, 0, 1, 0, 1);
        faultOfCode(7, 0, 1, 0, 1, 0, 1, 8);
        // as many as a TEXT has room for
        fault(60, VALUE, Rows.times(30, 0, 1));
        fault(60, CLASS, Rows.join(Rows.row(-1, 1, 9, 5, 0), Rows.times(27, 0, 1), Rows.row(15)));
        fault(59, CLASS, Rows.join(Rows.row(-1, 0, 1, 4, 54), Rows.times(27, 0, 1)));
    }

    // ---- classes

    private static void parents() {
        Check.sentence("Terms 1", "its parent (a NAME with a newest EDITION that is a CLASS, or -1)");
        right(CLASS, -1, 0, 0);
        right(CLASS, 1, 0, 0);
        right(CLASS, 15, 0, 0);
        for (int parent : new int[] {0, 2, 3, 4, 5, 13, 14, 16, -2, MIN, MAX}) {
            fault(0, CLASS, parent, 0, 0);
        }
        // its own NAME, where that has a CLASS already
        Book x = shelf();
        Check.due("a CLASS below its own older EDITION", x.retype(1, 1, 0, 0), 0);
        Check.due("its parent", x.edition(CELLS, 5), 1);
    }

    private static void fields() {
        Check.sentence("Terms 1", "how many FIELDS (0 .. 4)");
        right(CLASS, -1, 0, 0);
        right(CLASS, -1, 1, 0, 5, 0);
        right(CLASS, -1, 4, 0, 5, 1, 5, 2, 5, 3, 5, 0);
        fault(1, CLASS, -1, 5, 0, 5, 1, 5, 2, 5, 3, 5, 4, 5, 0);
        fault(1, CLASS, -1, -1, 0);
        fault(1, CLASS, -1, MIN, 0);
        fault(1, CLASS, -1, MAX, 0);

        Check.sentence("Terms 1", "of each its name (0 .. 9)");
        right(CLASS, -1, 2, 0, 5, 9, 5, 0);
        for (int f : new int[] {-1, 10, MIN, MAX}) {
            fault(2, CLASS, -1, 1, f, 5, 0);
            fault(4, CLASS, -1, 2, 0, 5, f, 5, 0);
        }

        Check.sentence("Terms 1", "its name (none twice), of FIELDS");
        fault(4, CLASS, -1, 2, 9, 5, 9, 6, 0);
        fault(8, CLASS, -1, 4, 0, 5, 1, 5, 2, 5, 0, 5, 0);
        fault(8, CLASS, -1, 4, 0, 5, 1, 5, 2, 5, 2, 5, 0);
        // its first int may be what a name is, and a METHOD may be named as a FIELD is
        right(CLASS, -1, 2, 0, 1, 1, 0, 0);
        right(CLASS, -1, 1, 4, 5, 1, 4, 1, 17);

        Check.sentence("Terms 1", "its first int (any)");
        for (int k : new int[] {MIN, -1, 0, MAX}) {
            right(CLASS, -1, 1, 9, k, 0);
            Book x = new Book();
            x.clazz(0, -1, 1, 9, k, 0);
            x.value(1, 2, 0);
            Check.due("field(0, 9, 1)", x.field(0, 9, 1), k);
        }
    }

    private static void methods() {
        Check.sentence("Terms 1", "how many METHODS (0 .. 3)");
        right(CLASS, -1, 0, 0);
        right(CLASS, -1, 0, 1, 0, 1, 16);
        right(CLASS, -1, 0, 3, 0, 1, 16, 1, 1, 16, 2, 1, 16);
        fault(2, CLASS, -1, 0, 4, 0, 1, 16, 1, 1, 16, 2, 1, 16, 3, 1, 16);
        fault(2, CLASS, -1, 0, -1);
        fault(2, CLASS, -1, 0, MIN);
        fault(2, CLASS, -1, 0, MAX);
        fault(4, CLASS, -1, 1, 0, 5, 4);

        Check.sentence("Terms 1", "of each its name (0 .. 4)");
        right(CLASS, -1, 0, 2, 0, 1, 16, 4, 1, 16);
        for (int m : new int[] {-1, 5, MIN, MAX}) {
            fault(3, CLASS, -1, 0, 1, m, 1, 16);
            fault(6, CLASS, -1, 0, 2, 0, 1, 16, m, 1, 16);
        }

        Check.sentence("Terms 1", "its name (none twice), of METHODS");
        fault(6, CLASS, -1, 0, 2, 4, 1, 16, 4, 1, 17);
        fault(9, CLASS, -1, 0, 3, 0, 1, 16, 1, 1, 16, 0, 1, 16);
        fault(9, CLASS, -1, 0, 3, 0, 1, 16, 1, 1, 16, 1, 1, 16);

        Check.sentence("Terms 1", "the length of its CODE (0 or more)");
        fault(4, CLASS, -1, 0, 1, 4, -1, 16);
        fault(4, CLASS, -1, 0, 1, 4, MIN, 16);
        // 0 may be, but such CODE hasn't one VALUE at its end: the place behind it
        fault(5, CLASS, -1, 0, 1, 4, 0);
        fault(5, CLASS, -1, 0, 1, 4, 0, 0, 1);
        fault(8, CLASS, -1, 0, 2, 4, 1, 16, 3, 0);

        Check.sentence("Terms 1", "a CODE whose length goes beyond the TEXT has its FAULT at that length");
        right(CLASS, -1, 0, 1, 4, 2, 0, 1);
        fault(4, CLASS, -1, 0, 1, 4, 3, 0, 1);
        fault(4, CLASS, -1, 0, 1, 4, 1);
        fault(4, CLASS, -1, 0, 1, 4, MAX, 16);
        fault(4, CLASS, -1, 0, 1, 4, MAX - 4, 16);
        fault(7, CLASS, -1, 0, 2, 4, 1, 16, 3, 2, 16);
        // ahead of what isn't so within that CODE
        fault(4, CLASS, -1, 0, 1, 4, 3, 99, 99);
        int[] toTheEnd = Rows.join(Rows.times(18, 0, 1), Rows.times(17, 8), Rows.row(15, 15));
        right(CLASS, Rows.join(Rows.row(-1, 0, 1, 4, 55), toTheEnd));
        fault(4, CLASS, Rows.join(Rows.row(-1, 0, 1, 4, 56), toTheEnd));
    }

    private static void starts() {
        Check.sentence("Terms 1", "then, to the end, the CODE of its START, or nothing");
        right(CLASS, -1, 0, 0);
        right(CLASS, -1, 0, 0, 0, 1);
        right(CLASS, -1, 0, 1, 0, 1, 16);
        right(CLASS, -1, 0, 1, 0, 1, 16, 0, 1);
        fault(3, CLASS, -1, 0, 0, -1);
        fault(6, CLASS, -1, 0, 1, 0, 1, 16, 99);
        fault(5, CLASS, -1, 0, 0, 0, 1, 99);

        Check.sentence("Terms 1", "the FAULT of CODE (by its length alone)");
        fault(5, CLASS, -1, 0, 1, 4, 1, 0, 1);
        fault(6, CLASS, -1, 0, 1, 4, 2, 17, 0, 1);
        // 16 within the length is a METHOD's, behind it a START's
        fault(6, CLASS, -1, 0, 1, 4, 1, 16, 16);
        // what is on the pile of one CODE isn't on that of the next
        fault(7, CLASS, -1, 0, 1, 4, 2, 17, 16);
        fault(6, CLASS, -1, 0, 1, 4, 1, 16, 15);
        fault(8, CLASS, -1, 0, 2, 4, 1, 16, 3, 1, 15);
    }

    private static void missingInts() {
        Check.sentence("Terms 1", "ints that aren't there are the FAULT of the place behind the TEXT");
        int[] whole = {1, 2, 3, 70, 9, 80, 2, 0, 2, 0, 5, 4, 1, 17, 0, 6};
        // -1: RIGHT. Where a length goes beyond the TEXT it is at that length; where an act has no int, at the act.
        int[] faults = {0, 1, 2, 3, 4, 5, 6, 7, 8, 8, 8, 11, 12, 12, -1, 14, -1};
        for (int length = 0; length <= whole.length; length++) {
            int[] text = Arrays.copyOf(whole, length);
            if (faults[length] < 0) {
                right(CLASS, text);
            } else {
                fault(faults[length], CLASS, text);
            }
        }

        Check.sentence("Terms 1", "Its FAULT is the first place of an int that isn't so, or the FAULT of CODE");
        fault(0, CLASS, 16, 5, 4);
        fault(1, CLASS, -1, 5, 4);
        fault(2, CLASS, -1, 1, 10);
        fault(4, CLASS, -1, 1, 9, 5, 4, 5);
        fault(5, CLASS, -1, 0, 1, 4, 1, 99, 99);
        fault(5, CLASS, -1, 0, 2, 4, 1, 99, 4, 1, 16);
        // a TEXT is read by the SORT of its CELL
        fault(0, VALUE, -1, 0, 0);
        fault(0, CLASS, 0, 7);
    }

    public static void main(String[] args) {
        names();
        lengthOfTexts();
        whatActsPut();
        fieldsAndMethods();
        whatIsRight();
        whereTheFaultIs();
        parents();
        fields();
        methods();
        starts();
        missingInts();
        Check.end();
    }
}
