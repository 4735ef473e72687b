import java.util.ArrayList;
import java.util.HashMap;
import java.util.HashSet;
import java.util.List;
import java.util.Map;
import java.util.Random;
import java.util.Set;
import java.util.TreeSet;

/**
 * Random runs of calls, each answer compared with that of a second, slower reading of the
 * document (recursive, with exceptions), which shares no code with EditionBook. No book hears
 * more than 512 calls, so that only what is promised is compared.
 * Arguments: how many runs (1000 without), the first seed (1 without).
 */
public final class ModelTest {

    // ---- the model

    static final class Fail extends Exception {
        private static final long serialVersionUID = 1L;
        final int kind;
        Fail(int kind) { this.kind = kind; }
    }

    static final class Spent extends Exception {
        private static final long serialVersionUID = 1L;
    }

    static final class Fault extends Exception {
        private static final long serialVersionUID = 1L;
        final int place;
        Fault(int place) { this.place = place; }
    }

    record Val(boolean isObject, int n) { }

    record Meth(int name, List<Integer> code) { }

    /** A CLASS's TEXT, parsed; names are still names. */
    record Shape(int parentName, Map<Integer, Integer> fields, List<Meth> methods, List<Integer> start) { }

    static final class Ed {
        int name;
        int sort;
        int maker;
        Val value;
        Shape shape;
        int parent = -1;
        int state;
        Map<Integer, Integer> meaning;
        Ed copy() {
            Ed x = new Ed();
            x.name = name; x.sort = sort; x.maker = maker; x.value = value; x.shape = shape;
            x.parent = parent; x.state = state; x.meaning = meaning;
            return x;
        }
    }

    static final class Obj {
        int of;
        Map<Integer, Val> fields = new HashMap<>();
        Obj copy() {
            Obj x = new Obj();
            x.of = of; x.fields = new HashMap<>(fields);
            return x;
        }
    }

    static final class Cel {
        int name;
        int sort;
        List<Integer> text;
        int outcome;
        int failure;
        int steps;
        int made;
        List<Val> wrote = new ArrayList<>();
        List<Integer> leans = new ArrayList<>();
        Cel copy() {
            Cel x = new Cel();
            x.name = name; x.sort = sort; x.text = text; x.outcome = outcome; x.failure = failure;
            x.steps = steps; x.made = made; x.wrote = wrote; x.leans = leans;
            return x;
        }
    }

    static final class Store {
        List<Ed> eds = new ArrayList<>();
        List<Obj> objs = new ArrayList<>();
        List<Cel> cels = new ArrayList<>();
        Set<Integer> forgotten = new HashSet<>();
        Store copy() {
            Store s = new Store();
            for (Ed e : eds) { s.eds.add(e.copy()); }
            for (Obj o : objs) { s.objs.add(o.copy()); }
            for (Cel c : cels) { s.cels.add(c.copy()); }
            s.forgotten.addAll(forgotten);
            return s;
        }
    }

    static final class Model {
        Store s = new Store();
        Store[] kept = new Store[2];
        List<Integer> tape = new ArrayList<>();
        Val cameValue;
        int cameFailure;
        int cameSteps;
        int steps;
        List<Val> wrote;

        int newest(int name) {
            if (s.forgotten.contains(name)) { return -1; }
            for (int e = s.eds.size() - 1; e >= 0; e--) {
                if (s.eds.get(e).name == name) { return e; }
            }
            return -1;
        }

        boolean names(int n, int sort) {
            return n >= 0 && n <= 15 && newest(n) >= 0 && s.eds.get(newest(n)).sort == sort;
        }

        static int takes(int act) {
            if (act <= 2 || act == 16 || act == 17) { return 0; }
            if (act == 3 || act == 4 || act == 5 || act == 15) { return 1; }
            return act == 14 ? 3 : 2;
        }

        void checkCode(List<Integer> code, int offset, boolean method, Set<Integer> used) throws Fault {
            int pile = 0;
            int i = 0;
            while (i < code.size()) {
                int place = offset + i;
                int act = code.get(i);
                if (act < 0 || act > 18) { throw new Fault(place); }
                if ((act == 16 || act == 17) && !method) { throw new Fault(place); }
                if (pile < takes(act)) { throw new Fault(place); }
                if (act <= 7) {
                    if (i + 1 >= code.size()) { throw new Fault(place); }
                    int k = code.get(i + 1);
                    boolean ok = act == 0
                        || act == 1 && names(k, 0)
                        || act >= 2 && act <= 4 && names(k, 1)
                        || (act == 5 || act == 6) && k >= 0 && k <= 9
                        || act == 7 && k >= 0 && k <= 4;
                    if (!ok) { throw new Fault(place); }
                    if (act >= 1 && act <= 4) { used.add(k); }
                    i++;
                }
                i++;
                pile = pile - takes(act) + 1;
            }
            if (pile != 1) { throw new Fault(offset + code.size()); }
        }

        static int intAt(List<Integer> t, int place, int low, int high) throws Fault {
            if (place >= t.size() || t.get(place) < low || t.get(place) > high) { throw new Fault(place); }
            return t.get(place);
        }

        Shape checkClass(List<Integer> t, Set<Integer> used) throws Fault {
            int parent = intAt(t, 0, -1, 15);
            if (parent >= 0) {
                if (!names(parent, 1)) { throw new Fault(0); }
                used.add(parent);
            }
            int fields = intAt(t, 1, 0, 4);
            int at = 2;
            Map<Integer, Integer> first = new HashMap<>();
            for (int i = 0; i < fields; i++) {
                int f = intAt(t, at, 0, 9);
                if (first.containsKey(f)) { throw new Fault(at); }
                first.put(f, intAt(t, at + 1, Integer.MIN_VALUE, Integer.MAX_VALUE));
                at += 2;
            }
            int methods = intAt(t, at, 0, 3);
            at++;
            List<Meth> meths = new ArrayList<>();
            for (int i = 0; i < methods; i++) {
                int m = intAt(t, at, 0, 4);
                for (Meth other : meths) {
                    if (other.name == m) { throw new Fault(at); }
                }
                int length = intAt(t, at + 1, 0, Integer.MAX_VALUE);
                if (length > t.size() - (at + 2)) { throw new Fault(at + 1); }
                List<Integer> code = t.subList(at + 2, at + 2 + length);
                checkCode(code, at + 2, true, used);
                meths.add(new Meth(m, code));
                at += 2 + length;
            }
            List<Integer> start = t.subList(at, t.size());
            if (!start.isEmpty()) { checkCode(start, at, false, used); }
            return new Shape(parent, first, meths, start);
        }

        /** 0 .. 2, or -100 less the FAULT. */
        int run(int c, Cel cel, List<Integer> text, boolean isNew) {
            Set<Integer> used = new HashSet<>();
            Shape shape = null;
            try {
                if (cel.sort == 1) { shape = checkClass(text, used); } else { checkCode(text, 0, false, used); }
            } catch (Fault f) {
                return -100 - f.place;
            }
            if (isNew) { s.cels.add(cel); }
            cel.text = text;
            Map<Integer, Integer> meaning = new HashMap<>();
            for (int n : used) { meaning.put(n, newest(n)); }
            cel.leans = new ArrayList<>(new TreeSet<>(meaning.values()));
            steps = 0;
            wrote = new ArrayList<>();
            cel.failure = 0;
            cel.made = -1;
            cel.outcome = 0;
            Ed ed = new Ed();
            ed.name = cel.name;
            ed.sort = cel.sort;
            ed.maker = c;
            ed.meaning = meaning;
            if (cel.sort == 1) {
                ed.shape = shape;
                ed.parent = shape.parentName < 0 ? -1 : meaning.get(shape.parentName);
            } else {
                try {
                    ed.value = work(text, meaning, null, null, 0);
                } catch (Fail f) {
                    cel.outcome = 1;
                    cel.failure = f.kind;
                } catch (Spent x) {
                    cel.outcome = 2;
                }
            }
            if (cel.outcome == 0) {
                s.eds.add(ed);
                s.forgotten.remove(ed.name);
                cel.made = s.eds.size() - 1;
            }
            cel.steps = steps;
            cel.wrote = wrote;
            return cel.outcome;
        }

        boolean below(Val v, int e) {
            if (!v.isObject) { return false; }
            for (int k = s.objs.get(v.n).of; k >= 0; k = s.eds.get(k).parent) {
                if (k == e) { return true; }
            }
            return false;
        }

        static int num(Val v) throws Fail {
            if (v.isObject) { throw new Fail(1); }
            return v.n;
        }

        Obj obj(Val v) throws Fail {
            if (!v.isObject) { throw new Fail(1); }
            return s.objs.get(v.n);
        }

        Val work(List<Integer> code, Map<Integer, Integer> meaning, Val self, Val argument, int depth)
                throws Fail, Spent {
            List<Val> pile = new ArrayList<>();
            int i = 0;
            while (i < code.size()) {
                if (steps == 1000) { throw new Spent(); }
                steps++;
                int act = code.get(i);
                int k = act <= 7 ? code.get(i + 1) : 0;
                i += act <= 7 ? 2 : 1;
                Val[] t = new Val[3];
                for (int j = 0; j < takes(act); j++) { t[j] = pile.remove(pile.size() - 1); }
                pile.add(actOn(act, k, t, meaning, self, argument, depth));
            }
            if (pile.size() != 1) { throw new IllegalStateException(); }
            return pile.get(0);
        }

        Val actOn(int act, int k, Val[] t, Map<Integer, Integer> meaning, Val self, Val argument, int depth)
                throws Fail, Spent {
            switch (act) {
                case 0: return new Val(false, k);
                case 1: return s.eds.get(meaning.get(k)).value;
                case 2: start(meaning.get(k), depth); return make(meaning.get(k));
                case 3: return new Val(false, below(t[0], meaning.get(k)) ? 1 : 0);
                case 4: if (!below(t[0], meaning.get(k))) { throw new Fail(5); } return t[0];
                case 5: {
                    Obj o = obj(t[0]);
                    if (!o.fields.containsKey(k)) { throw new Fail(3); }
                    return o.fields.get(k);
                }
                case 6: {
                    Obj o = obj(t[1]);
                    if (!o.fields.containsKey(k)) { throw new Fail(3); }
                    o.fields.put(k, t[0]);
                    return t[0];
                }
                case 7: obj(t[1]); return method(t[1], k, t[0], depth);
                case 8: return new Val(false, num(t[0]) + num(t[1]));
                case 9: return new Val(false, -num(t[0]) + num(t[1]));
                case 10: return new Val(false, num(t[0]) * num(t[1]));
                case 11: {
                    long b = num(t[0]);
                    long a = num(t[1]);
                    if (b == 0) { throw new Fail(2); }
                    return new Val(false, (int) (a / b));
                }
                case 12: return new Val(false, num(t[0]) > num(t[1]) ? 1 : 0);
                case 13: return new Val(false, t[0].equals(t[1]) ? 1 : 0);
                case 14: return num(t[2]) != 0 ? t[1] : t[0];
                case 15: wrote.add(t[0]); return t[0];
                case 16: return self;
                case 17: return argument;
                default: return t[0];
            }
        }

        Val method(Val o, int m, Val argument, int depth) throws Fail, Spent {
            for (int e = s.objs.get(o.n).of; e >= 0; e = s.eds.get(e).parent) {
                for (Meth meth : s.eds.get(e).shape.methods) {
                    if (meth.name == m) {
                        if (depth >= 20) { throw new Fail(7); }
                        return work(meth.code, s.eds.get(e).meaning, o, argument, depth + 1);
                    }
                }
            }
            throw new Fail(4);
        }

        void start(int e, int depth) throws Fail, Spent {
            for (int k = e; k >= 0; k = s.eds.get(k).parent) {
                if (s.eds.get(k).state == 2) { throw new Fail(6); }
            }
            Ed ed = s.eds.get(e);
            if (ed.state == 0 && ed.parent >= 0) { start(ed.parent, depth); }
            if (ed.state != 0) { return; }
            if (!ed.shape.start.isEmpty() && depth >= 20) { throw new Fail(7); }
            ed.state = 1;
            if (ed.shape.start.isEmpty()) { return; }
            try {
                work(ed.shape.start, ed.meaning, null, null, depth + 1);
            } catch (Fail f) {
                ed.state = 2;
                throw new Fail(6);
            } catch (Spent x) {
                ed.state = 2;
                throw x;
            }
        }

        Val make(int e) throws Fail {
            if (s.objs.size() >= 150) { throw new Fail(8); }
            Obj o = new Obj();
            o.of = e;
            for (int k = e; k >= 0; k = s.eds.get(k).parent) {
                for (Map.Entry<Integer, Integer> f : s.eds.get(k).shape.fields.entrySet()) {
                    o.fields.putIfAbsent(f.getKey(), new Val(false, f.getValue()));
                }
            }
            s.objs.add(o);
            return new Val(true, s.objs.size() - 1);
        }

        boolean isStale(int c, Set<Integer> already) {
            for (int e : s.cels.get(c).leans) {
                if (newest(s.eds.get(e).name) != e || already.contains(s.eds.get(e).maker)) { return true; }
            }
            return false;
        }

        Set<Integer> stale() {
            Set<Integer> all = new TreeSet<>();
            boolean more = true;
            while (more) {
                more = false;
                for (int c = 0; c < s.cels.size(); c++) {
                    if (isStale(c, all)) { more |= all.add(c); }
                }
            }
            return all;
        }

        int rerunStale() {
            Set<Integer> waiting = stale();
            if (s.eds.size() + waiting.size() > 150) { return -2; }
            int ran = 0;
            while (!waiting.isEmpty()) {
                int next = -1;
                for (int c : waiting) {
                    boolean free = true;
                    for (int e : s.cels.get(c).leans) {
                        int n = newest(s.eds.get(e).name);
                        if (n >= 0 && s.eds.get(n).maker != c && waiting.contains(s.eds.get(n).maker)) { free = false; }
                    }
                    if (free) { next = c; break; }
                }
                if (next < 0) { next = waiting.iterator().next(); }
                waiting.remove(next);
                if (run(next, s.cels.get(next), s.cels.get(next).text, false) >= 0) { ran++; }
            }
            return ran;
        }

        int cell(int name, int sort) {
            if (name < 0 || name > 15 || sort < 0 || sort > 1) { return -1; }
            if (s.cels.size() == 40 || s.eds.size() == 150) { return -2; }
            Cel cel = new Cel();
            cel.name = name;
            cel.sort = sort;
            int r = run(s.cels.size(), cel, List.copyOf(tape), true);
            if (r < 0) { return r; }
            tape.clear();
            return s.cels.size() - 1;
        }

        int redo(int c) {
            if (c < 0 || c >= s.cels.size()) { return -1; }
            if (s.eds.size() == 150) { return -2; }
            int r = run(c, s.cels.get(c), List.copyOf(tape), false);
            if (r >= 0) { tape.clear(); }
            return r;
        }

        int rerun(int c) {
            if (c < 0 || c >= s.cels.size()) { return -1; }
            if (s.eds.size() == 150) { return -2; }
            return run(c, s.cels.get(c), s.cels.get(c).text, false);
        }

        int put(int n, int... four) {
            if (n < 1 || n > 4) { return -1; }
            if (tape.size() + n > 60) { return -2; }
            for (int i = 0; i < n; i++) { tape.add(four[i]); }
            return tape.size();
        }

        int wipe() {
            int had = tape.size();
            tape.clear();
            return had;
        }

        int forget(int name) {
            if (name < 0 || name > 15) { return -1; }
            if (newest(name) < 0) { return 0; }
            s.forgotten.add(name);
            return 1;
        }

        int of(int c, int what) {
            if (c < 0 || c >= s.cels.size() || what < 0 || what > 8) { return -3; }
            Cel x = s.cels.get(c);
            return new int[] {x.outcome, x.failure, x.steps, x.wrote.size(), x.made, x.name, x.sort,
                x.leans.size(), x.text.size()}[what];
        }

        int leans(int c, int i) {
            if (c < 0 || c >= s.cels.size() || i < 0 || i >= s.cels.get(c).leans.size()) { return -1; }
            return s.cels.get(c).leans.get(i);
        }

        int written(int c, int i, int what) {
            if (c < 0 || c >= s.cels.size() || i < 0 || i >= 20 || i >= s.cels.get(c).wrote.size()) { return 0; }
            Val v = s.cels.get(c).wrote.get(i);
            return what == 0 ? (v.isObject ? 1 : 0) : what == 1 ? v.n : 0;
        }

        int count(int what) {
            if (what < 0 || what > 3) { return -1; }
            return List.of(s.eds.size(), s.objs.size(), s.cels.size(), tape.size()).get(what);
        }

        int edition(int e, int what) {
            if (e < 0 || e >= s.eds.size() || what < 0 || what > 7) { return -3; }
            Ed x = s.eds.get(e);
            switch (what) {
                case 0: return x.name;
                case 1: return (int) s.eds.subList(0, e).stream().filter(o -> o.name == x.name).count();
                case 2: return x.maker;
                case 3: return x.sort;
                case 4: return newest(x.name) == e ? 1 : 0;
                case 5: return x.sort == 1 ? x.parent : x.value.isObject ? 1 : 0;
                case 6: return x.sort == 1 ? x.state : x.value.n;
                default: return x.sort == 1 ? (int) s.objs.stream().filter(o -> o.of == e).count() : 0;
            }
        }

        int classOf(int o) {
            return o < 0 || o >= s.objs.size() ? -1 : s.objs.get(o).of;
        }

        int field(int o, int f, int what) {
            Val v = o < 0 || o >= s.objs.size() ? null : s.objs.get(o).fields.get(f);
            if (what == 0) { return v == null ? -1 : v.isObject ? 1 : 0; }
            return v == null || what != 1 ? 0 : v.n;
        }

        boolean is(int o, int e) {
            return o >= 0 && o < s.objs.size() && e >= 0 && e < s.eds.size() && below(new Val(true, o), e);
        }

        int call(int o, int m, int argument) {
            if (o < 0 || o >= s.objs.size() || m < 0 || m > 4) { return -1; }
            steps = 0;
            wrote = new ArrayList<>();
            cameValue = null;
            cameFailure = 0;
            int outcome = 0;
            try {
                cameValue = method(new Val(true, o), m, new Val(false, argument), 0);
            } catch (Fail f) {
                outcome = 1;
                cameFailure = f.kind;
            } catch (Spent x) {
                outcome = 2;
            }
            cameSteps = steps;
            return outcome;
        }

        int came(int what) {
            switch (what) {
                case 0: return cameValue != null && cameValue.isObject ? 1 : 0;
                case 1: return cameValue == null ? 0 : cameValue.n;
                case 2: return cameFailure;
                case 3: return cameSteps;
                default: return 0;
            }
        }

        int convert(int o, int name) {
            if (o < 0 || o >= s.objs.size() || !names(name, 1)) { return -1; }
            try {
                Val v = make(newest(name));
                Obj made = s.objs.get(v.n);
                made.fields.replaceAll((f, first) -> s.objs.get(o).fields.getOrDefault(f, first));
                return v.n;
            } catch (Fail full) {
                return -2;
            }
        }

        boolean keep(int place) {
            if (place < 0 || place > 1) { return false; }
            kept[place] = s.copy();
            return true;
        }

        boolean back(int place) {
            if (place < 0 || place > 1 || kept[place] == null) { return false; }
            s = kept[place].copy();
            return true;
        }
    }

    // ---- random texts

    /** Writes CODE as trees, so that most of it is RIGHT and goes far. */
    static final class Writer {
        final Random r;
        final Model m;
        final List<Integer> out = new ArrayList<>();
        boolean inMethod;
        Writer(Random r, Model m) { this.r = r; this.m = m; }

        void add(int... ints) { for (int k : ints) { out.add(k); } }

        int pick(int sort, Boolean isObject) {
            List<Integer> found = new ArrayList<>();
            for (int n = 0; n < 16; n++) {
                int e = m.newest(n);
                if (e >= 0 && m.s.eds.get(e).sort == sort
                    && (isObject == null || m.s.eds.get(e).value.isObject == isObject)) { found.add(n); }
            }
            return found.isEmpty() ? -1 : found.get(r.nextInt(found.size()));
        }

        int smallInt() {
            int k = r.nextInt(20);
            return k == 0 ? Integer.MIN_VALUE : k == 1 ? Integer.MAX_VALUE : k == 2 ? r.nextInt() : r.nextInt(7) - 2;
        }

        void any(int size) {
            int k = r.nextInt(12);
            if (k < 4) { number(size); } else if (k < 8) { object(size); }
            else if (k == 8 && size > 1) { any(size - 1); add(15); }
            else if (k == 9 && size > 1) { any(size - 2); any(size - 2); add(18); }
            else if (k == 10 && inMethod) { add(17); }
            else if (size > 2) { object(size - 2); any(size - 2); add(6, r.nextInt(r.nextInt(9) == 0 ? 10 : 4)); }
            else { number(size); }
        }

        void number(int size) {
            if (r.nextInt(60) == 0) { object(size); return; }
            int k = size <= 0 ? r.nextInt(3) : r.nextInt(14);
            int n;
            if (k == 0 && (n = pick(0, false)) >= 0) { add(1, n); }
            else if (k == 1 && inMethod) { add(17); }
            else if (k >= 3 && k <= 4) { number(size - 2); number(size - 2); add(8 + r.nextInt(5)); }
            else if (k == 5) { any(size - 2); any(size - 2); add(13); }
            else if (k == 6 && (n = pick(1, null)) >= 0) { any(size - 1); add(3, n); }
            else if (k >= 7 && k <= 8) { object(size - 1); add(5, r.nextInt(r.nextInt(9) == 0 ? 10 : 4)); }
            else if (k >= 9 && k <= 11) { object(size - 2); any(size - 2); add(7, r.nextInt(r.nextInt(4) == 0 ? 5 : 3)); }
            else if (k == 12) { number(size - 3); number(size - 3); number(size - 3); add(14); }
            else { add(0, smallInt()); }
        }

        void object(int size) {
            if (r.nextInt(60) == 0) { number(size); return; }
            int k = r.nextInt(size <= 0 ? 6 : 11);
            int n;
            if (k <= 1 && (n = pick(0, true)) >= 0) { add(1, n); }
            else if (k <= 2 && inMethod) { add(16); }
            else if (k == 6 && (n = pick(1, null)) >= 0) { object(size - 1); add(4, n); }
            else if (k == 7) { object(size - 1); add(5, r.nextInt(4)); }
            else if (k == 8) { object(size - 2); any(size - 2); add(7, r.nextInt(3)); }
            else if ((n = pick(1, null)) >= 0) { add(2, n); }
            else { add(0, smallInt()); }
        }

        void code(int size, boolean method) {
            inMethod = method;
            int heavy = heavyName(2);
            if (heavy >= 0 && r.nextInt(8) == 0) {
                add(2, heavy, 0, smallInt(), 7, r.nextInt(4) == 0 ? 4 : 3);
                if (r.nextInt(3) == 0) { add(2, heavy, 0, smallInt(), 7, 3, 18); }
            } else {
                any(size);
            }
        }

        /** METHODS that call the next one five times over: with a CLASS and one below it, beyond 1,000 STEPS. */
        void heavyClass() {
            int upper = heavyName(3);
            boolean lower = upper >= 0;
            add(upper, 0);
            int[][] chain = lower ? new int[][] {{3, 0}, {4, 3}} : new int[][] {{0, 1}, {1, 2}};
            add(lower ? 2 : 3);
            for (int[] link : chain) {
                add(link[0], 24);
                for (int i = 0; i < 5; i++) { add(16, 17, 7, link[1]); }
                add(18, 18, 18, 18);
            }
            if (!lower) { add(2, 2, 17, 15); }
        }

        /** A NAME of a heavy CLASS: with three METHODS the upper one, with two the one below it. */
        int heavyName(int methods) {
            for (int n = 0; n < 16; n++) {
                int e = m.newest(n);
                if (e >= 0 && m.s.eds.get(e).sort == 1 && m.s.eds.get(e).shape.fields.isEmpty()
                    && m.s.eds.get(e).shape.methods.size() == methods
                    && m.s.eds.get(e).shape.methods.get(0).code.size() == 24) { return n; }
            }
            return -1;
        }

        void classText() {
            if (r.nextInt(12) == 0) { heavyClass(); return; }
            add(r.nextInt(3) == 0 ? -1 : pick(1, null));
            int fields = r.nextInt(4);
            add(fields);
            for (int f = 0; f < fields; f++) { add(r.nextInt(12) == 0 ? r.nextInt(10) : f, smallInt()); }
            int methods = r.nextInt(4);
            add(methods);
            int first = r.nextInt(3);
            for (int i = 0; i < methods; i++) {
                Writer w = new Writer(r, m);
                w.code(r.nextInt(5), true);
                add((first + i) % 5, w.out.size());
                out.addAll(w.out);
            }
            if (r.nextInt(3) == 0) { code(r.nextInt(4), false); }
        }

        void spoil() {
            int place = r.nextInt(out.size() + 1);
            switch (r.nextInt(3)) {
                case 0: out.add(place, r.nextInt(22) - 2); break;
                case 1: if (place < out.size()) { out.remove(place); } break;
                default: if (place < out.size()) { out.set(place, r.nextInt(22) - 2); }
            }
        }
    }

    // ---- the runs

    /** A call, held fast so that another book can hear it, too. */
    interface Call {
        long on(EditionBook x);
    }

    record Look(String told, Call call, long want) { }

    static final int CALLS_MOST = 512;
    /** No step makes more calls than this. */
    static final int CALLS_OF_STEP = 20;
    /** How many books hear a run, so that more can be asked behind it than one book has calls for. */
    static final int BOOKS = 4;
    /** How often, of 100: cell, redo, rerun, rerunStale, forget, call, convert, keep, back; else put. */
    static final int[][] MOODS = {
        {30, 20, 6, 6, 2, 16, 6, 2, 1}, {16, 8, 40, 14, 3, 10, 4, 2, 1}, {55, 5, 8, 4, 1, 12, 8, 3, 1},
        {12, 6, 6, 4, 1, 20, 45, 3, 1}, {25, 15, 10, 12, 6, 12, 5, 6, 5}};

    static int wrong = 0;
    static final Map<String, Integer> seen = new java.util.TreeMap<>();

    static long seed;
    static List<String> log;
    static EditionBook x;
    static List<Call> heard;
    static Model m;
    static Random r;
    static int[] mood;
    static int sizeMost;

    static void same(String told, Call call, long want) {
        if (heard.size() >= CALLS_MOST) { throw new IllegalStateException("beyond the 512th call"); }
        heard.add(call);
        compare(told, call.on(x), want);
    }

    static void same(String told, Call call, boolean want) { same(told, call, want ? 1 : 0); }

    static void compare(String told, long got, long want) {
        log.add(told + " = " + got);
        if (got != want) {
            wrong++;
            System.out.println("seed " + seed + ": " + told + " answered " + got + ", due is " + want);
            if (wrong == 1) {
                for (int i = Math.max(0, log.size() - 40); i < log.size(); i++) { System.out.println("    " + log.get(i)); }
            }
        }
    }

    static long bit(boolean b) { return b ? 1 : 0; }

    static void count(String key) { seen.merge(key, 1, Integer::sum); }

    static void type(int sort) {
        if (r.nextInt(30) == 0) { return; }
        if (!m.tape.isEmpty() || r.nextInt(20) == 0) { same("wipe()", b -> b.wipe(), m.wipe()); }
        Writer w = new Writer(r, m);
        for (int tries = 0; tries < 5; tries++) {
            w.out.clear();
            if (sort == 1) { w.classText(); } else { w.code(r.nextInt(sizeMost), false); }
            if (w.out.size() <= 60) { break; }
        }
        if (r.nextInt(12) == 0) { w.spoil(); }
        for (int i = 0; i < w.out.size() && i < 64; i += 4) {
            int[] four = new int[4];
            int n = Math.min(4, w.out.size() - i);
            for (int j = 0; j < n; j++) { four[j] = w.out.get(i + j); }
            same("put(" + n + ", " + four[0] + ", " + four[1] + ", " + four[2] + ", " + four[3] + ")",
                b -> b.put(n, four[0], four[1], four[2], four[3]), m.put(n, four));
        }
    }

    static int near(int size) {
        return r.nextInt(25) == 0 ? r.nextInt(3) - 1 + size : r.nextInt(Math.max(1, size));
    }

    static int pickCall() {
        int k = r.nextInt(100);
        int i = 0;
        while (i < mood.length && k >= mood[i]) {
            k -= mood[i];
            i++;
        }
        return i;
    }

    static void step(int names) {
        int name = r.nextInt(40) == 0 ? r.nextInt(20) - 2 : r.nextInt(names);
        int c = near(m.s.cels.size());
        int o = near(m.s.objs.size());
        int place = r.nextInt(4) - 1;
        switch (pickCall()) {
            case 0: newCell(name); break;
            case 1: {
                type(c >= 0 && c < m.s.cels.size() ? m.s.cels.get(c).sort : 0);
                int want = m.redo(c);
                same("redo(" + c + ")", b -> b.redo(c), want);
                outcome("redo", want, c);
                break;
            }
            case 2: {
                int want = m.rerun(c);
                same("rerun(" + c + ")", b -> b.rerun(c), want);
                outcome("rerun", want, c);
                break;
            }
            case 3: {
                int want = m.rerunStale();
                same("rerunStale()", b -> b.rerunStale(), want);
                count("rerunStale " + (want < 0 ? "refused" : want > 3 ? "above 3" : want));
                break;
            }
            case 4: same("forget(" + name + ")", b -> b.forget(name), m.forget(name)); break;
            case 5: byHand(o); break;
            case 6: same("convert(" + o + ", " + name + ")", b -> b.convert(o, name), m.convert(o, name)); break;
            case 7: same("keep(" + place + ")", b -> bit(b.keep(place)), m.keep(place)); break;
            case 8: same("back(" + place + ")", b -> bit(b.back(place)), m.back(place)); break;
            default: {
                int n = r.nextInt(7) - 1;
                same("put(" + n + ", 0, 1, 15, 18)", b -> b.put(n, 0, 1, 15, 18), m.put(n, 0, 1, 15, 18));
            }
        }
    }

    static void newCell(int name) {
        int sort = r.nextInt(60) == 0 ? r.nextInt(4) - 1 : r.nextInt(5) < 2 ? 1 : 0;
        type(sort);
        int want = m.cell(name, sort);
        same("cell(" + name + ", " + sort + ")", b -> b.cell(name, sort), want);
        outcome("cell", want, want);
    }

    static void byHand(int o) {
        int method = r.nextInt(20) == 0 ? r.nextInt(8) - 2 : r.nextInt(5);
        int argument = r.nextInt(5);
        int want = m.call(o, method, argument);
        same("call(" + o + ", " + method + ", " + argument + ")", b -> b.call(o, method, argument), want);
        count(want < 0 ? "call refused" : "call outcome " + want + " failure " + m.came(2));
    }

    static void outcome(String call, int answer, int c) {
        if (answer < 0) {
            count(call + (answer <= -100 ? " with a FAULT" : " refused"));
            return;
        }
        Cel cel = m.s.cels.get(c);
        count(call + " outcome " + cel.outcome + " failure " + cel.failure);
        if (cel.wrote.size() > 20) { count("wrote above 20"); }
    }

    static void countLimits() {
        if (m.s.eds.size() == 150) { count("runs with 150 editions"); }
        if (m.s.objs.size() == 150) { count("runs with 150 objects"); }
        if (m.s.cels.size() == 40) { count("runs with 40 cells"); }
        for (Ed e : m.s.eds) { if (e.sort == 1 && !e.shape.start.isEmpty()) { count("starts, state " + e.state); } }
    }

    // ---- what is asked behind a run

    static void look(List<Look> looks, int oneIn, String told, Call call, long want) {
        if (r.nextInt(oneIn) == 0) { looks.add(new Look(told, call, want)); }
    }

    static void lookAtCells(List<Look> looks) {
        Set<Integer> stale = m.stale();
        for (int cell = -1; cell <= m.s.cels.size(); cell++) {
            int c = cell;
            look(looks, 1, "stale(" + c + ")", b -> bit(b.stale(c)), bit(stale.contains(c)));
            for (int k = -1; k <= 21; k++) {
                int i = k;
                if (i <= 9) { look(looks, 1, "of(" + c + ", " + i + ")", b -> b.of(c, i), m.of(c, i)); }
                if (i <= 16) { look(looks, 2, "leans(" + c + ", " + i + ")", b -> b.leans(c, i), m.leans(c, i)); }
                for (int w = -1; w <= 2; w++) {
                    int what = w;
                    look(looks, 6, "written(" + c + ", " + i + ", " + what + ")",
                        b -> b.written(c, i, what), m.written(c, i, what));
                }
            }
        }
    }

    static void lookAtEditions(List<Look> looks) {
        for (int w = -1; w <= 4; w++) {
            int what = w;
            look(looks, 1, "count(" + what + ")", b -> b.count(what), m.count(what));
            look(looks, 1, "came(" + what + ")", b -> b.came(what), m.came(what));
        }
        for (int n = -1; n <= 16; n++) {
            int name = n;
            look(looks, 1, "newest(" + name + ")", b -> b.newest(name), m.newest(name));
        }
        for (int k = -1; k <= m.s.eds.size(); k++) {
            int e = k;
            for (int w = -1; w <= 8; w++) {
                int what = w;
                look(looks, 1, "edition(" + e + ", " + what + ")", b -> b.edition(e, what), m.edition(e, what));
            }
        }
    }

    static void lookAtObjects(List<Look> looks) {
        for (int k = -1; k <= m.s.objs.size(); k++) {
            int o = k;
            look(looks, 1, "classOf(" + o + ")", b -> b.classOf(o), m.classOf(o));
            for (int g = -1; g <= 10; g++) {
                int f = g;
                look(looks, 2, "field(" + o + ", " + f + ", 0)", b -> b.field(o, f, 0), m.field(o, f, 0));
                look(looks, 2, "field(" + o + ", " + f + ", 1)", b -> b.field(o, f, 1), m.field(o, f, 1));
            }
            for (int n = -1; n <= m.s.eds.size(); n++) {
                int e = n;
                look(looks, 20, "is(" + o + ", " + e + ")", b -> bit(b.is(o, e)), bit(m.is(o, e)));
            }
        }
    }

    /** Asks what the books have calls for; each book but the first hears the run anew. */
    static void lookAround() {
        List<Look> looks = new ArrayList<>();
        lookAtCells(looks);
        lookAtEditions(looks);
        lookAtObjects(looks);
        java.util.Collections.shuffle(looks, r);
        int perBook = CALLS_MOST - heard.size();
        for (int i = 0; i < looks.size() && i < BOOKS * perBook && wrong == 0; i++) {
            if (i > 0 && i % perBook == 0) {
                x = new EditionBook();
                for (Call call : heard) { call.on(x); }
            }
            compare(looks.get(i).told, looks.get(i).call.on(x), looks.get(i).want);
        }
    }

    static void oneRun() {
        r = new Random(seed);
        x = new EditionBook();
        m = new Model();
        log = new ArrayList<>();
        heard = new ArrayList<>();
        mood = MOODS[r.nextInt(MOODS.length)];
        sizeMost = 2 + r.nextInt(8);
        int names = 2 + r.nextInt(15);
        int calls = r.nextInt(CALLS_MOST - CALLS_OF_STEP);
        while (heard.size() < calls && wrong == 0) { step(names); }
        countLimits();
        lookAround();
    }

    public static void main(String[] args) {
        int runs = args.length > 0 ? Integer.parseInt(args[0]) : 1000;
        long first = args.length > 1 ? Long.parseLong(args[1]) : 1;
        for (seed = first; seed < first + runs && wrong == 0; seed++) { oneRun(); }
        if (args.length > 0) { seen.forEach((key, many) -> System.out.println(key + ": " + many)); }
        System.out.println(wrong == 0 ? runs + " runs are as the model's" : wrong + " answers are not as the model's");
        if (wrong != 0) { System.exit(1); }
    }
}
