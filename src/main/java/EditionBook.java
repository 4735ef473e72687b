import java.util.Arrays;

/**
 * A notebook of cells that are typed, typed anew and run again. The words in capitals
 * (CELL, EDITION, STALE and so on) are those of the document.
 */
public final class EditionBook {
    /** A number is none, or none that may be. */
    public static final int NUMBER = -1;
    /** There are as many as may be. */
    public static final int FULL = -2;

    private static final int NONE = -1;
    private static final int NOT_TOLD = -3;
    private static final int FAULT = -100;
    private static final int RIGHT = -1;

    private static final int NAMES = 16;
    private static final int FIELD_NAMES = 10;
    private static final int METHOD_NAMES = 5;
    private static final int FIELDS_MOST = 4;
    private static final int METHODS_MOST = 3;
    private static final int TEXT_MOST = 60;
    private static final int PUT_MOST = 4;
    private static final int CELLS_MOST = 40;
    private static final int EDITIONS_MOST = 150;
    private static final int OBJECTS_MOST = 150;
    private static final int WRITTEN_MOST = 20;
    private static final int STEPS_MOST = 1000;
    private static final int DEPTH_MOST = 20;
    private static final int PLACES = 2;

    private static final int VALUE = 0;
    private static final int CLASS = 1;

    private static final int INT = 0;
    private static final int OBJECT = 1;

    private static final int WELL = 0;
    private static final int FAILED = 1;
    private static final int SPENT = 2;

    private static final int NO_FAILURE = 0;
    private static final int SORT_FAILURE = 1;
    private static final int ZERO_FAILURE = 2;
    private static final int FIELD_FAILURE = 3;
    private static final int METHOD_FAILURE = 4;
    private static final int EDITION_FAILURE = 5;
    private static final int START_FAILURE = 6;
    private static final int DEEP_FAILURE = 7;
    private static final int FULL_FAILURE = 8;

    private static final int NOT_BEGUN = 0;
    private static final int BEGUN = 1;
    private static final int BROKEN = 2;

    private static final int ACTS_WITH_INT = 8;
    private static final int ACT_SELF = 16;
    private static final int ACT_ARGUMENT = 17;
    private static final int[] TAKES = {0, 0, 0, 1, 1, 1, 2, 2, 2, 2, 2, 2, 2, 2, 3, 1, 0, 0, 2};

    private final int[] tape = new int[TEXT_MOST];
    private int onTape = 0;
    private final Reader reader = new Reader();
    private final Worker worker = new Worker();
    private final Image now = worker.book;
    private final Image[] kept = new Image[PLACES];
    private int cameKind = INT;
    private int cameNumber = 0;
    private int cameFailure = NO_FAILURE;
    private int cameSteps = 0;

    public EditionBook() {
    }

    // ---- cells

    public int put(int n, int a, int b, int c, int d) {
        if (n < 1 || n > PUT_MOST) {
            return NUMBER;
        }
        if (onTape + n > TEXT_MOST) {
            return FULL;
        }
        putOne(a);
        if (n > 1) {
            putOne(b);
        }
        if (n > 2) {
            putOne(c);
        }
        if (n > 3) {
            putOne(d);
        }
        return onTape;
    }

    private void putOne(int k) {
        if (onTape >= 0 && onTape < TEXT_MOST) {
            tape[onTape] = k;
            onTape++;
        }
    }

    public int wipe() {
        int had = onTape;
        onTape = 0;
        return had;
    }

    public int cell(int name, int sort) {
        if (!isName(name) || (sort != VALUE && sort != CLASS)) {
            return NUMBER;
        }
        if (now.cells.size() >= CELLS_MOST || now.isFullOfEditions()) {
            return FULL;
        }
        int fault = faultOfTape(sort);
        if (fault != RIGHT) {
            return FAULT - fault;
        }
        int c = now.addCell(name, sort);
        takeTape(c);
        runCell(c);
        return c;
    }

    public int redo(int c) {
        if (!now.cells.has(c)) {
            return NUMBER;
        }
        if (now.isFullOfEditions()) {
            return FULL;
        }
        int fault = faultOfTape(now.cells.get(c, Image.CELL_SORT));
        if (fault != RIGHT) {
            return FAULT - fault;
        }
        takeTape(c);
        return runCell(c);
    }

    public int rerun(int c) {
        if (!now.cells.has(c)) {
            return NUMBER;
        }
        if (now.isFullOfEditions()) {
            return FULL;
        }
        int fault = faultOfCell(c);
        if (fault != RIGHT) {
            return FAULT - fault;
        }
        return runCell(c);
    }

    public int rerunStale() {
        long waiting = now.staleCells();
        int many = Long.bitCount(waiting);
        if (now.editions.size() + many > EDITIONS_MOST) {
            return FULL;
        }
        int ran = 0;
        for (int i = 0; i < many; i++) {
            int c = now.nextToRun(waiting);
            waiting &= ~(1L << c);
            if (faultOfCell(c) == RIGHT) {
                runCell(c);
                ran++;
            }
        }
        return ran;
    }

    public int forget(int name) {
        if (!isName(name)) {
            return NUMBER;
        }
        return now.dropNewest(name) ? 1 : 0;
    }

    public int of(int c, int what) {
        if (!now.cells.has(c) || what < 0 || what > Image.CELL_LENGTH) {
            return NOT_TOLD;
        }
        return now.cells.get(c, what);
    }

    public int leans(int c, int i) {
        if (!now.cells.has(c) || i < 0 || i >= now.cells.get(c, Image.CELL_LEANS)) {
            return NONE;
        }
        return now.leanOf(c, i);
    }

    public boolean stale(int c) {
        return now.cells.has(c) && Image.isMarked(now.staleCells(), c);
    }

    public int written(int c, int i, int what) {
        if (!now.cells.has(c) || i < 0 || i >= WRITTEN_MOST || i >= now.cells.get(c, Image.CELL_WROTE)) {
            return 0;
        }
        if (what == 0) {
            return now.cells.get(c, Image.CELL_WRITTEN_KIND + i);
        }
        return what == 1 ? now.cells.get(c, Image.CELL_WRITTEN_NUMBER + i) : 0;
    }

    // ---- editions

    public int count(int what) {
        switch (what) {
            case 0:
                return now.editions.size();
            case 1:
                return now.objects.size();
            case 2:
                return now.cells.size();
            case 3:
                return onTape;
            default:
                return NONE;
        }
    }

    public int newest(int name) {
        return now.newestOf(name);
    }

    public int edition(int e, int what) {
        if (!now.editions.has(e)) {
            return NOT_TOLD;
        }
        boolean isClass = now.isClass(e);
        switch (what) {
            case 0:
                return now.editions.get(e, Image.NAME);
            case 1:
                return now.countOlder(e);
            case 2:
                return now.editions.get(e, Image.MAKER);
            case 3:
                return now.editions.get(e, Image.SORT);
            case 4:
                return now.isNewest(e) ? 1 : 0;
            case 5:
                return now.editions.get(e, isClass ? Image.PARENT : Image.KIND);
            case 6:
                return now.editions.get(e, isClass ? Image.STATE : Image.HELD);
            case 7:
                return isClass ? now.countMadeOf(e) : 0;
            default:
                return NOT_TOLD;
        }
    }

    // ---- objects

    public int classOf(int o) {
        return now.objects.has(o) ? now.objects.get(o, Image.OBJECT_CLASS) : NONE;
    }

    public int field(int o, int f, int what) {
        boolean has = f >= 0 && f < FIELD_NAMES && now.hasField(o, f);
        if (what == 0) {
            return has ? now.objects.get(o, Image.FIELD_KIND + f) : NONE;
        }
        return has && what == 1 ? now.objects.get(o, Image.FIELD_NUMBER + f) : 0;
    }

    public boolean is(int o, int e) {
        return now.objects.has(o) && now.editions.has(e) && now.isBelow(now.objects.get(o, Image.OBJECT_CLASS), e);
    }

    public int call(int o, int m, int argument) {
        if (!now.objects.has(o) || m < 0 || m >= METHOD_NAMES) {
            return NUMBER;
        }
        worker.beginByHand(o, m, argument);
        int outcome = worker.work();
        cameKind = outcome == WELL ? worker.lastKind() : INT;
        cameNumber = outcome == WELL ? worker.lastNumber() : 0;
        cameFailure = worker.failure;
        cameSteps = worker.steps;
        return outcome;
    }

    public int came(int what) {
        switch (what) {
            case 0:
                return cameKind;
            case 1:
                return cameNumber;
            case 2:
                return cameFailure;
            case 3:
                return cameSteps;
            default:
                return 0;
        }
    }

    public int convert(int o, int name) {
        int e = now.newestOf(name);
        if (!now.objects.has(o) || e == NONE || !now.isClass(e)) {
            return NUMBER;
        }
        int made = now.addObject(e);
        if (made == NONE) {
            return FULL;
        }
        now.carryFields(o, made);
        return made;
    }

    // ---- images

    public boolean keep(int place) {
        if (place < 0 || place >= PLACES) {
            return false;
        }
        Image image = kept[place];
        if (image == null) {
            image = new Image();
            kept[place] = image;
        }
        image.copyFrom(now);
        return true;
    }

    public boolean back(int place) {
        if (place < 0 || place >= PLACES) {
            return false;
        }
        Image image = kept[place];
        if (image == null) {
            return false;
        }
        now.copyFrom(image);
        return true;
    }

    // ---- what several calls share

    private static boolean isName(int name) {
        return name >= 0 && name < NAMES;
    }

    private int faultOfTape(int sort) {
        reader.open(now);
        for (int i = 0; i < onTape && i < TEXT_MOST; i++) {
            reader.addInt(tape[i]);
        }
        return reader.findFault(sort);
    }

    private int faultOfCell(int c) {
        reader.open(now);
        int length = now.cells.get(c, Image.CELL_LENGTH);
        for (int i = 0; i < length && i < TEXT_MOST; i++) {
            reader.addInt(now.cells.get(c, Image.CELL_TEXT + i));
        }
        return reader.findFault(now.cells.get(c, Image.CELL_SORT));
    }

    private void takeTape(int c) {
        now.cells.set(c, Image.CELL_LENGTH, onTape);
        for (int i = 0; i < onTape && i < TEXT_MOST; i++) {
            now.cells.set(c, Image.CELL_TEXT + i, tape[i]);
        }
        onTape = 0;
    }

    /** RUNS a CELL whose TEXT the reader has just found RIGHT: its OUTCOME. */
    private int runCell(int c) {
        // Ahead of the new EDITION: the CELL may use the NAME that it is about to make anew.
        now.noteLeans(c, reader.used);
        worker.clear();
        int outcome = WELL;
        int made = NONE;
        if (now.cells.get(c, Image.CELL_SORT) == CLASS) {
            made = now.addClass(c, reader);
        } else {
            worker.beginCell(reader);
            outcome = worker.work();
            if (outcome == WELL) {
                made = now.addValue(c, worker.lastKind(), worker.lastNumber());
            }
        }
        noteRun(c, outcome, made);
        return outcome;
    }

    private void noteRun(int c, int outcome, int made) {
        Table cells = now.cells;
        cells.set(c, Image.CELL_OUTCOME, outcome);
        cells.set(c, Image.CELL_FAILURE, worker.failure);
        cells.set(c, Image.CELL_STEPS, worker.steps);
        cells.set(c, Image.CELL_WROTE, worker.wrote);
        cells.set(c, Image.CELL_MADE, made);
        for (int i = 0; i < worker.written.size(); i++) {
            cells.set(c, Image.CELL_WRITTEN_KIND + i, worker.written.get(i, 0));
            cells.set(c, Image.CELL_WRITTEN_NUMBER + i, worker.written.get(i, 1));
        }
    }

    /**
     * Rows of ints of one width. Every index is looked at here, so that no user of it can
     * step outside; it grows as rows come, so that a new book is small.
     */
    private static final class Table {
        private static final int FIRST_ROWS = 4;

        private final int width;
        private final int most;
        private int[] ints;
        private int rows = 0;

        Table(int width, int most) {
            this.width = Math.max(width, 1);
            this.most = most;
            this.ints = new int[this.width * FIRST_ROWS];
        }

        int size() {
            return rows;
        }

        boolean has(int row) {
            return row >= 0 && row < rows;
        }

        int get(int row, int column) {
            if (row < 0 || row >= rows || column < 0 || column >= width) {
                return 0;
            }
            int at = row * width + column;
            return at < ints.length ? ints[at] : 0;
        }

        void set(int row, int column, int k) {
            if (row < 0 || row >= rows || column < 0 || column >= width) {
                return;
            }
            int at = row * width + column;
            if (at < ints.length) {
                ints[at] = k;
            }
        }

        /** A row of zeros comes: its number, or NONE where there are as many as may be. */
        int add() {
            if (rows >= most) {
                return NONE;
            }
            int from = rows * width;
            int to = from + width;
            if (to > ints.length) {
                ints = Arrays.copyOf(ints, Math.max(to, Math.min(2 * ints.length, most * width)));
            }
            Arrays.fill(ints, from, to, 0);
            rows++;
            return rows - 1;
        }

        void addPair(int first, int second) {
            int row = add();
            set(row, 0, first);
            set(row, 1, second);
        }

        void dropLast() {
            if (rows > 0) {
                rows--;
            }
        }

        void clear() {
            rows = 0;
        }

        boolean holdsFirst(int k) {
            for (int i = 0; i < rows; i++) {
                if (get(i, 0) == k) {
                    return true;
                }
            }
            return false;
        }

        void copyFrom(Table other) {
            int used = other.rows * other.width;
            if (other.width != width || used > other.ints.length) {
                return;
            }
            if (used > ints.length) {
                ints = new int[other.ints.length];
            }
            System.arraycopy(other.ints, 0, ints, 0, used);
            rows = other.rows;
        }
    }

    /** All that keep() keeps: CELLS, EDITIONS, OBJECTS and which EDITIONS are the newest. */
    private static final class Image {
        /* The first nine columns of a CELL are in the order in which of() asks for them. */
        static final int CELL_OUTCOME = 0;
        static final int CELL_FAILURE = 1;
        static final int CELL_STEPS = 2;
        static final int CELL_WROTE = 3;
        static final int CELL_MADE = 4;
        static final int CELL_NAME = 5;
        static final int CELL_SORT = 6;
        static final int CELL_LEANS = 7;
        static final int CELL_LENGTH = 8;
        static final int CELL_TEXT = 9;
        static final int CELL_LEAN = CELL_TEXT + TEXT_MOST;
        static final int CELL_WRITTEN_KIND = CELL_LEAN + NAMES;
        static final int CELL_WRITTEN_NUMBER = CELL_WRITTEN_KIND + WRITTEN_MOST;
        static final int CELL_WIDTH = CELL_WRITTEN_NUMBER + WRITTEN_MOST;

        static final int NAME = 0;
        static final int MAKER = 1;
        static final int SORT = 2;
        static final int KIND = 3;
        static final int HELD = 4;
        static final int PARENT = 5;
        static final int STATE = 6;
        static final int START_FROM = 7;
        static final int START_TO = 8;
        static final int METHOD_OWNER = 9;
        static final int METHOD_FROM = METHOD_OWNER + METHOD_NAMES;
        static final int METHOD_TO = METHOD_FROM + METHOD_NAMES;
        static final int FIELD_HAS = METHOD_TO + METHOD_NAMES;
        static final int FIELD_FIRST = FIELD_HAS + FIELD_NAMES;
        static final int CODE = FIELD_FIRST + FIELD_NAMES;
        static final int EDITION_WIDTH = CODE + TEXT_MOST;

        static final int OBJECT_CLASS = 0;
        static final int FIELD_KIND = 1;
        static final int FIELD_NUMBER = FIELD_KIND + FIELD_NAMES;
        static final int OBJECT_WIDTH = FIELD_NUMBER + FIELD_NAMES;

        final Table cells = new Table(CELL_WIDTH, CELLS_MOST);
        final Table editions = new Table(EDITION_WIDTH, EDITIONS_MOST);
        final Table objects = new Table(OBJECT_WIDTH, OBJECTS_MOST);
        private final int[] newestOfName = new int[NAMES];

        Image() {
            Arrays.fill(newestOfName, NONE);
        }

        void copyFrom(Image other) {
            cells.copyFrom(other.cells);
            editions.copyFrom(other.editions);
            objects.copyFrom(other.objects);
            System.arraycopy(other.newestOfName, 0, newestOfName, 0, NAMES);
        }

        // -- names

        int newestOf(int name) {
            return isName(name) ? newestOfName[name] : NONE;
        }

        boolean dropNewest(int name) {
            if (newestOf(name) == NONE || !isName(name)) {
                return false;
            }
            newestOfName[name] = NONE;
            return true;
        }

        boolean isNewest(int e) {
            return editions.has(e) && newestOf(editions.get(e, NAME)) == e;
        }

        // -- editions

        boolean isFullOfEditions() {
            return editions.size() >= EDITIONS_MOST;
        }

        boolean isClass(int e) {
            return editions.has(e) && editions.get(e, SORT) == CLASS;
        }

        private int addEdition(int c) {
            int e = editions.add();
            int name = cells.get(c, CELL_NAME);
            editions.set(e, NAME, name);
            editions.set(e, MAKER, c);
            editions.set(e, SORT, cells.get(c, CELL_SORT));
            if (isName(name)) {
                newestOfName[name] = e;
            }
            return e;
        }

        int addValue(int c, int kind, int held) {
            int e = addEdition(c);
            editions.set(e, KIND, kind);
            editions.set(e, HELD, held);
            return e;
        }

        int addClass(int c, Reader read) {
            int e = addEdition(c);
            editions.set(e, PARENT, read.parent);
            editions.set(e, START_FROM, read.startFrom);
            editions.set(e, START_TO, read.length);
            inherit(e, read.parent);
            for (int i = 0; i < read.fields.size(); i++) {
                int f = read.fields.get(i, 0);
                editions.set(e, FIELD_HAS + f, 1);
                editions.set(e, FIELD_FIRST + f, read.fields.get(i, 1));
            }
            for (int i = 0; i < read.methods.size(); i++) {
                int m = read.methods.get(i, 0);
                editions.set(e, METHOD_OWNER + m, e);
                editions.set(e, METHOD_FROM + m, read.methods.get(i, 1));
                editions.set(e, METHOD_TO + m, read.methods.get(i, 2));
            }
            for (int i = 0; i < read.length; i++) {
                editions.set(e, CODE + i, read.boundAt(i));
            }
            return e;
        }

        /** A CLASS carries all that its parents name, so that the nearest one is found at once. */
        private void inherit(int e, int parent) {
            if (parent == NONE) {
                for (int m = 0; m < METHOD_NAMES; m++) {
                    editions.set(e, METHOD_OWNER + m, NONE);
                }
                return;
            }
            for (int column = METHOD_OWNER; column < CODE; column++) {
                editions.set(e, column, editions.get(parent, column));
            }
        }

        int countOlder(int e) {
            int older = 0;
            for (int i = 0; i < e && i < editions.size(); i++) {
                if (editions.get(i, NAME) == editions.get(e, NAME)) {
                    older++;
                }
            }
            return older;
        }

        int countMadeOf(int e) {
            int made = 0;
            for (int o = 0; o < objects.size(); o++) {
                if (objects.get(o, OBJECT_CLASS) == e) {
                    made++;
                }
            }
            return made;
        }

        /** Whether CLASS e is the other one or below it; a parent always has the lesser number. */
        boolean isBelow(int e, int other) {
            int at = e;
            for (int i = 0; i < EDITIONS_MOST && at > other; i++) {
                at = editions.get(at, PARENT);
            }
            return at == other;
        }

        // -- starts

        boolean hasBrokenStart(int e) {
            int at = e;
            for (int i = 0; i < EDITIONS_MOST && at != NONE; i++) {
                if (editions.get(at, STATE) == BROKEN) {
                    return true;
                }
                at = editions.get(at, PARENT);
            }
            return false;
        }

        /** The topmost of a CLASS and its parents that wasn't begun; NONE if all were. */
        private int nextToStart(int e) {
            int next = NONE;
            int at = e;
            for (int i = 0; i < EDITIONS_MOST && at != NONE; i++) {
                if (editions.get(at, STATE) == NOT_BEGUN) {
                    next = at;
                }
                at = editions.get(at, PARENT);
            }
            return next;
        }

        /** Begins those that have no START, from the top on, up to one that has: that, or NONE. */
        int beginUpToStart(int e) {
            int next = nextToStart(e);
            for (int i = 0; i < EDITIONS_MOST && next != NONE; i++) {
                if (editions.get(next, START_FROM) < editions.get(next, START_TO)) {
                    return next;
                }
                editions.set(next, STATE, BEGUN);
                next = nextToStart(e);
            }
            return NONE;
        }

        // -- objects

        int addObject(int e) {
            int o = objects.add();
            objects.set(o, OBJECT_CLASS, e);
            for (int f = 0; f < FIELD_NAMES; f++) {
                boolean has = editions.get(e, FIELD_HAS + f) == 1;
                objects.set(o, FIELD_KIND + f, has ? INT : NONE);
                objects.set(o, FIELD_NUMBER + f, has ? editions.get(e, FIELD_FIRST + f) : 0);
            }
            return o;
        }

        boolean hasField(int o, int f) {
            return objects.has(o) && objects.get(o, FIELD_KIND + f) != NONE;
        }

        void setField(int o, int f, int kind, int number) {
            objects.set(o, FIELD_KIND + f, kind);
            objects.set(o, FIELD_NUMBER + f, number);
        }

        void carryFields(int from, int to) {
            for (int f = 0; f < FIELD_NAMES; f++) {
                if (hasField(from, f) && hasField(to, f)) {
                    setField(to, f, objects.get(from, FIELD_KIND + f), objects.get(from, FIELD_NUMBER + f));
                }
            }
        }

        // -- cells

        int addCell(int name, int sort) {
            int c = cells.add();
            cells.set(c, CELL_NAME, name);
            cells.set(c, CELL_SORT, sort);
            return c;
        }

        int leanOf(int c, int i) {
            return cells.get(c, CELL_LEAN + i);
        }

        /** The newest EDITIONS of the used NAMES (a bit each) become those that a CELL LEANS on. */
        void noteLeans(int c, int used) {
            int many = 0;
            for (int e = 0; e < editions.size() && many < NAMES; e++) {
                if (isNewest(e) && (used >>> editions.get(e, NAME) & 1) == 1) {
                    cells.set(c, CELL_LEAN + many, e);
                    many++;
                }
            }
            cells.set(c, CELL_LEANS, many);
        }

        static boolean isMarked(long marks, int c) {
            return c >= 0 && c < CELLS_MOST && (marks >>> c & 1L) == 1L;
        }

        /** The STALE CELLS, a bit each: from none on, and each round adds those that the last one led to. */
        long staleCells() {
            long marks = 0L;
            boolean grew = true;
            for (int round = 0; round <= CELLS_MOST && grew; round++) {
                grew = false;
                for (int c = 0; c < cells.size(); c++) {
                    if (!isMarked(marks, c) && isStaleBy(marks, c)) {
                        marks |= 1L << c;
                        grew = true;
                    }
                }
            }
            return marks;
        }

        private boolean isStaleBy(long marks, int c) {
            for (int i = 0; i < cells.get(c, CELL_LEANS); i++) {
                int e = leanOf(c, i);
                if (!isNewest(e) || isMarked(marks, editions.get(e, MAKER))) {
                    return true;
                }
            }
            return false;
        }

        /** Which of the WAITING CELLS is RUN next; there must be one. */
        int nextToRun(long waiting) {
            int least = NONE;
            for (int c = 0; c < cells.size(); c++) {
                if (isMarked(waiting, c)) {
                    if (!leansOnWaiting(c, waiting)) {
                        return c;
                    }
                    if (least == NONE) {
                        least = c;
                    }
                }
            }
            return least;
        }

        private boolean leansOnWaiting(int c, long waiting) {
            for (int i = 0; i < cells.get(c, CELL_LEANS); i++) {
                int newest = newestOf(editions.get(leanOf(c, i), NAME));
                int maker = newest == NONE ? NONE : editions.get(newest, MAKER);
                if (maker != c && isMarked(waiting, maker)) {
                    return true;
                }
            }
            return false;
        }
    }

    /** Reads a TEXT: finds its FAULT, and what its NAMES stand for. */
    private static final class Reader {
        final Table fields = new Table(2, FIELDS_MOST);
        final Table methods = new Table(3, METHODS_MOST);
        int length = 0;
        int used = 0;
        int parent = NONE;
        int startFrom = 0;
        private final int[] newest = new int[NAMES];
        private final int[] sorts = new int[NAMES];
        private final int[] text = new int[TEXT_MOST];
        private final int[] bound = new int[TEXT_MOST];
        private int at = 0;

        /** An empty TEXT, to be read by the newest EDITIONS as they are now. */
        void open(Image image) {
            for (int n = 0; n < NAMES; n++) {
                newest[n] = image.newestOf(n);
                sorts[n] = image.editions.get(newest[n], Image.SORT);
            }
            fields.clear();
            methods.clear();
            length = 0;
            used = 0;
            parent = NONE;
            startFrom = 0;
            at = 0;
        }

        void addInt(int k) {
            if (length >= 0 && length < TEXT_MOST) {
                text[length] = k;
                bound[length] = k;
                length++;
            }
        }

        /** An int of the TEXT, an EDITION standing where a NAME stood. */
        int boundAt(int place) {
            return place >= 0 && place < TEXT_MOST ? bound[place] : 0;
        }

        /** The place of the FAULT, or RIGHT. */
        int findFault(int sort) {
            if (sort != CLASS) {
                return codeFault(0, length, false);
            }
            if (!readParent()) {
                return 0;
            }
            int fault = readFields();
            if (fault == RIGHT) {
                fault = readMethods();
            }
            startFrom = at;
            if (fault == RIGHT && at < length) {
                fault = codeFault(at, length, false);
            }
            return fault;
        }

        private int textAt(int place) {
            return place >= 0 && place < length && place < TEXT_MOST ? text[place] : 0;
        }

        private boolean isThere(int place, int low, int high) {
            return place < length && textAt(place) >= low && textAt(place) <= high;
        }

        private boolean readParent() {
            if (!isThere(0, NONE, NAMES - 1)) {
                return false;
            }
            at = 1;
            if (textAt(0) == NONE) {
                return true;
            }
            if (!standsFor(textAt(0), CLASS)) {
                return false;
            }
            bind(0);
            parent = boundAt(0);
            return true;
        }

        private int readFields() {
            if (!isThere(at, 0, FIELDS_MOST)) {
                return at;
            }
            int many = textAt(at);
            at++;
            for (int i = 0; i < many; i++) {
                if (!isThere(at, 0, FIELD_NAMES - 1) || fields.holdsFirst(textAt(at))) {
                    return at;
                }
                if (at + 1 >= length) {
                    return length;
                }
                fields.addPair(textAt(at), textAt(at + 1));
                at += 2;
            }
            return RIGHT;
        }

        private int readMethods() {
            if (!isThere(at, 0, METHODS_MOST)) {
                return at;
            }
            int many = textAt(at);
            at++;
            for (int i = 0; i < many; i++) {
                if (!isThere(at, 0, METHOD_NAMES - 1) || methods.holdsFirst(textAt(at))) {
                    return at;
                }
                int name = textAt(at);
                at++;
                int from = at + 1;
                if (!isThere(at, 0, length - from)) {
                    return at;
                }
                int to = from + textAt(at);
                int fault = codeFault(from, to, true);
                if (fault != RIGHT) {
                    return fault;
                }
                methods.addPair(name, from);
                methods.set(i, 2, to);
                at = to;
            }
            return RIGHT;
        }

        private int codeFault(int from, int to, boolean inMethod) {
            int place = from;
            int pile = 0;
            for (int i = 0; i < TEXT_MOST && place < to; i++) {
                int act = textAt(place);
                if (act < 0 || act >= TAKES.length || pile < TAKES[act]) {
                    return place;
                }
                if (!inMethod && (act == ACT_SELF || act == ACT_ARGUMENT)) {
                    return place;
                }
                int behind = place + sizeOf(act);
                if (behind > to || (act < ACTS_WITH_INT && !isIntRight(act, textAt(place + 1)))) {
                    return place;
                }
                if (usesName(act)) {
                    bind(place + 1);
                }
                pile += 1 - TAKES[act];
                place = behind;
            }
            return pile == 1 ? RIGHT : to;
        }

        static int sizeOf(int act) {
            return act < ACTS_WITH_INT ? 2 : 1;
        }

        private static boolean usesName(int act) {
            return act >= 1 && act <= 4;
        }

        private boolean isIntRight(int act, int k) {
            switch (act) {
                case 0:
                    return true;
                case 1:
                    return standsFor(k, VALUE);
                case 2:
                case 3:
                case 4:
                    return standsFor(k, CLASS);
                case 7:
                    return k >= 0 && k < METHOD_NAMES;
                default:
                    return k >= 0 && k < FIELD_NAMES;
            }
        }

        private boolean standsFor(int name, int sort) {
            return name >= 0 && name < NAMES && newest[name] != NONE && sorts[name] == sort;
        }

        private void bind(int place) {
            int name = textAt(place);
            if (isName(name) && place >= 0 && place < TEXT_MOST) {
                bound[place] = newest[name];
                used |= 1 << name;
            }
        }
    }

    /**
     * Works CODE. A frame stands for the CELL, or for each METHOD or START on the way; so the
     * depth is how many frames there are, and a FAILURE finds there which STARTS it breaks.
     */
    private static final class Worker {
        private static final int ROW = 0;
        private static final int PLACE = 1;
        private static final int END = 2;
        private static final int SELF = 3;
        private static final int ARGUMENT_KIND = 4;
        private static final int ARGUMENT_NUMBER = 5;
        private static final int STARTED = 6;
        private static final int WANTED = 7;
        private static final int FRAME_WIDTH = 8;
        private static final int FRAMES_MOST = DEPTH_MOST + 1;
        private static final int PILE_MOST = FRAMES_MOST * TEXT_MOST;
        private static final int ROUNDS_MOST = 1000000;

        final Image book = new Image();
        final Table written = new Table(2, WRITTEN_MOST);
        int wrote = 0;
        int steps = 0;
        int failure = NO_FAILURE;
        private final Table pile = new Table(2, PILE_MOST);
        private final Table frames = new Table(FRAME_WIDTH, FRAMES_MOST);
        private final int[] cellCode = new int[TEXT_MOST];
        private int cellFrames = 0;

        void clear() {
            written.clear();
            pile.clear();
            frames.clear();
            wrote = 0;
            steps = 0;
            failure = NO_FAILURE;
            cellFrames = 0;
        }

        void beginCell(Reader read) {
            clear();
            for (int i = 0; i < read.length && i < TEXT_MOST; i++) {
                cellCode[i] = read.boundAt(i);
            }
            cellFrames = 1;
            openFrame(NONE, 0, read.length);
        }

        void beginByHand(int o, int m, int argument) {
            clear();
            pile.addPair(OBJECT, o);
            pile.addPair(INT, argument);
            failure = callMethod(m);
        }

        int lastKind() {
            return kindAt(0);
        }

        int lastNumber() {
            return numberAt(0);
        }

        /** Works what was begun: its OUTCOME. */
        int work() {
            if (failure != NO_FAILURE) {
                return FAILED;
            }
            for (int i = 0; i < ROUNDS_MOST && frames.size() > 0; i++) {
                int ended = NO_FAILURE;
                int last = frames.size() - 1;
                if (frames.get(last, PLACE) >= frames.get(last, END)) {
                    ended = closeFrame();
                } else if (steps >= STEPS_MOST) {
                    breakStarts();
                    return SPENT;
                } else {
                    steps++;
                    ended = act(last);
                }
                if (ended != NO_FAILURE) {
                    failure = breakStarts() ? START_FAILURE : ended;
                    return FAILED;
                }
            }
            return WELL;
        }

        /** All CLASSES fail whose START is on the way: whether there was one. */
        private boolean breakStarts() {
            boolean any = false;
            for (int i = 0; i < frames.size(); i++) {
                int started = frames.get(i, STARTED);
                if (started != NONE) {
                    book.editions.set(started, Image.STATE, BROKEN);
                    any = true;
                }
            }
            return any;
        }

        // -- frames

        private int openFrame(int row, int from, int to) {
            int frame = frames.add();
            frames.set(frame, ROW, row);
            frames.set(frame, PLACE, from);
            frames.set(frame, END, to);
            frames.set(frame, STARTED, NONE);
            return frame;
        }

        private boolean isDeep() {
            return frames.size() - cellFrames >= DEPTH_MOST;
        }

        /** What a METHOD ends with is left on the pile; behind a START its OBJECT is still to come. */
        private int closeFrame() {
            int last = frames.size() - 1;
            int started = frames.get(last, STARTED);
            int wanted = frames.get(last, WANTED);
            frames.dropLast();
            if (started == NONE) {
                return NO_FAILURE;
            }
            pile.dropLast();
            return make(wanted);
        }

        // -- the pile: 0 is the last VALUE on it, 1 the one below that

        private int kindAt(int below) {
            return pile.get(pile.size() - 1 - below, 0);
        }

        private int numberAt(int below) {
            return pile.get(pile.size() - 1 - below, 1);
        }

        private int takeAndPut(int taken, int kind, int number) {
            for (int i = 0; i < taken; i++) {
                pile.dropLast();
            }
            int put = pile.add();
            pile.set(put, 0, kind);
            pile.set(put, 1, number);
            return NO_FAILURE;
        }

        // -- acts: each answers its FAILURE

        private int codeAt(int row, int place) {
            if (row != NONE) {
                return book.editions.get(row, Image.CODE + place);
            }
            return place >= 0 && place < TEXT_MOST ? cellCode[place] : 0;
        }

        private int act(int frame) {
            int row = frames.get(frame, ROW);
            int place = frames.get(frame, PLACE);
            int act = codeAt(row, place);
            int k = codeAt(row, place + 1);
            frames.set(frame, PLACE, place + Reader.sizeOf(act));
            switch (act) {
                case 0:
                    return takeAndPut(0, INT, k);
                case 1:
                    return takeAndPut(0, book.editions.get(k, Image.KIND), book.editions.get(k, Image.HELD));
                case 2:
                    return make(k);
                case 3:
                    return takeAndPut(1, INT, isLastOf(k) ? 1 : 0);
                case 4:
                    return isLastOf(k) ? NO_FAILURE : EDITION_FAILURE;
                case 5:
                    return readField(k);
                case 6:
                    return writeField(k);
                case 7:
                    return callMethod(k);
                case 13:
                    return takeAndPut(2, INT, isSame() ? 1 : 0);
                case 14:
                    return choose();
                case 15:
                    return write();
                case ACT_SELF:
                    return takeAndPut(0, OBJECT, frames.get(frame, SELF));
                case ACT_ARGUMENT:
                    return takeAndPut(0, frames.get(frame, ARGUMENT_KIND), frames.get(frame, ARGUMENT_NUMBER));
                case 18:
                    return takeAndPut(2, kindAt(0), numberAt(0));
                default:
                    return reckon(act);
            }
        }

        private boolean isSame() {
            return kindAt(0) == kindAt(1) && numberAt(0) == numberAt(1);
        }

        private boolean isLastOf(int e) {
            return kindAt(0) == OBJECT && book.isBelow(book.objects.get(numberAt(0), Image.OBJECT_CLASS), e);
        }

        /** An OBJECT of CLASS e comes, or first the next START that it needs is begun. */
        private int make(int e) {
            if (book.hasBrokenStart(e)) {
                return START_FAILURE;
            }
            int started = book.beginUpToStart(e);
            if (started == NONE) {
                int o = book.addObject(e);
                return o == NONE ? FULL_FAILURE : takeAndPut(0, OBJECT, o);
            }
            if (isDeep()) {
                return DEEP_FAILURE;
            }
            book.editions.set(started, Image.STATE, BEGUN);
            int from = book.editions.get(started, Image.START_FROM);
            int frame = openFrame(started, from, book.editions.get(started, Image.START_TO));
            frames.set(frame, STARTED, started);
            frames.set(frame, WANTED, e);
            return NO_FAILURE;
        }

        private int readField(int f) {
            if (kindAt(0) != OBJECT) {
                return SORT_FAILURE;
            }
            int o = numberAt(0);
            if (!book.hasField(o, f)) {
                return FIELD_FAILURE;
            }
            int number = book.objects.get(o, Image.FIELD_NUMBER + f);
            return takeAndPut(1, book.objects.get(o, Image.FIELD_KIND + f), number);
        }

        private int writeField(int f) {
            if (kindAt(1) != OBJECT) {
                return SORT_FAILURE;
            }
            int o = numberAt(1);
            if (!book.hasField(o, f)) {
                return FIELD_FAILURE;
            }
            book.setField(o, f, kindAt(0), numberAt(0));
            return takeAndPut(2, kindAt(0), numberAt(0));
        }

        private int callMethod(int m) {
            if (kindAt(1) != OBJECT) {
                return SORT_FAILURE;
            }
            int o = numberAt(1);
            int e = book.objects.get(o, Image.OBJECT_CLASS);
            int owner = book.editions.get(e, Image.METHOD_OWNER + m);
            if (owner == NONE) {
                return METHOD_FAILURE;
            }
            if (isDeep()) {
                return DEEP_FAILURE;
            }
            int from = book.editions.get(e, Image.METHOD_FROM + m);
            int frame = openFrame(owner, from, book.editions.get(e, Image.METHOD_TO + m));
            frames.set(frame, SELF, o);
            frames.set(frame, ARGUMENT_KIND, kindAt(0));
            frames.set(frame, ARGUMENT_NUMBER, numberAt(0));
            pile.dropLast();
            pile.dropLast();
            return NO_FAILURE;
        }

        private int reckon(int act) {
            if (kindAt(0) != INT || kindAt(1) != INT) {
                return SORT_FAILURE;
            }
            int b = numberAt(0);
            int a = numberAt(1);
            switch (act) {
                case 8:
                    return takeAndPut(2, INT, a + b);
                case 9:
                    return takeAndPut(2, INT, a - b);
                case 10:
                    return takeAndPut(2, INT, a * b);
                case 11:
                    return b == 0 ? ZERO_FAILURE : takeAndPut(2, INT, a / b);
                default:
                    return takeAndPut(2, INT, a < b ? 1 : 0);
            }
        }

        private int choose() {
            if (kindAt(2) != INT) {
                return SORT_FAILURE;
            }
            int chosen = numberAt(2) != 0 ? 1 : 0;
            return takeAndPut(3, kindAt(chosen), numberAt(chosen));
        }

        private int write() {
            wrote++;
            written.addPair(kindAt(0), numberAt(0));
            return NO_FAILURE;
        }
    }
}
