import java.util.ArrayList;
import java.util.Collections;
import java.util.HashSet;
import java.util.List;
import java.util.Set;
import java.util.TreeMap;
import java.util.TreeSet;

/**
 * Long runs of mixed calls, each answer held against a second, plain writing of the document:
 * it recurses, keeps nothing that can be worked out again, and shares no code with ClassDesk.
 */
public final class ModelTest {
    private static final int RUNS = 600;
    private static final int CALLS = 512;

    public static void main(String[] args) {
        Due due = new Due();
        for (int run = 0; run < RUNS && !due.isWrong(); run++) {
            new Run(run, due).go();
        }
        due.end();
    }

    /** One run: the same calls go to a ClassDesk and to a Model. */
    private static final class Run {
        final int number;
        final Due due;
        final ClassDesk desk = new ClassDesk();
        final Model model = new Model();
        long seed;

        Run(int number, Due due) {
            this.number = number;
            this.due = due;
            this.seed = number * 7919L + 17;
        }

        /** 0..n-1, the same ones in every run of this test. */
        int pick(int n) {
            seed = seed * 6364136223846793005L + 1442695040888963407L;
            return (int) ((seed >>> 33) % n);
        }

        /** Mostly 0..n-1, at times just outside, so that wrong inputs are met too. */
        int near(int n) {
            int chance = pick(60);
            return chance == 0 ? -1 : chance == 1 ? n : chance == 2 ? -7 : chance == 3 ? n + 90 : pick(n);
        }

        /** A class, mostly one of the first few, so that most of those that are asked for are there. */
        int someClass() {
            return pick(4) == 0 ? near(12) : pick(number % 3 == 0 ? 12 : 6);
        }

        int someInstance() {
            return pick(20) == 0 ? near(12) : pick(4);
        }

        int specializer() {
            int chance = pick(40);
            return chance == 0 ? 12 + pick(4) : chance == 1 ? 28 : chance < 9 ? 16 + pick(5) : someClass();
        }

        void check(String call, long got, long want) {
            due.is("run " + number + ": " + call, got, want);
        }

        void go() {
            if (number % 4 != 0) {
                startWell();
            }
            if (number % 5 == 4) {
                startHeavy();
            }
            for (int k = 0; k < 40; k++) {
                buildUp();
            }
            for (int k = 100; k < CALLS && !due.isWrong(); k++) {
                int chance = pick(10);
                if (chance < 3) {
                    buildUp();
                } else if (chance < 5) {
                    useSlots();
                } else if (chance < 9) {
                    useCall();
                } else {
                    lookAround();
                }
                if (k % 32 == 0) {
                    lookAtAll();
                }
            }
            lookAtAll();
        }

        /** Without this most calls would end with the first ERROR. */
        void startWell() {
            for (int k = 0; k < 10; k++) {
                define();
            }
            for (int name = 0; name < 6; name++) {
                int how = pick(2) == 0 ? 1 : 3;
                check("slot", desk.slot(0, name, how, name), model.slot(0, name, how, name));
            }
            for (int k = 0; k < 5; k++) {
                int c = pick(6), made = model.isClass(c) ? c : 0;
                check("make", desk.make(made), model.make(made));
            }
            for (int g = 0; g < 5; g++) {
                int n = 1 + pick(2), body = pick(8);
                check("generic", desk.generic(g, n), model.generic(g, n));
                check("method", desk.method(g, 0, 0, 0, body), model.method(g, 0, 0, 0, body));
            }
        }

        /** AROUNDS that go on twice and PRIMARIES that CALL on reach the 300 steps and the 12 GENERICS. */
        void startHeavy() {
            int[] ops = {6, 4, 1, 4, 2, 3, 9};
            for (int op : ops) {
                addStep(0, op, pick(6));
            }
            for (int b = 1; b < 4; b++) {
                addStep(b, 5, 0);
                addStep(b, 6, pick(50));
                addStep(b, 7, b + pick(2));
                addStep(b, 8, 0);
                addStep(b, 7, 4);
            }
            for (int k = 0; k < 8; k++) {
                int g = pick(4), s = pick(3) == 0 ? 16 + pick(5) : pick(6), t = pick(3);
                check("method", desk.method(g, 3, s, t, 0), model.method(g, 3, s, t, 0));
            }
            for (int g = 0; g < 4; g++) {
                int body = 1 + pick(3);
                check("method", desk.method(g, 0, 0, 0, body), model.method(g, 0, 0, 0, body));
            }
        }

        void addStep(int b, int op, int a) {
            check("step(" + b + ", " + op + ", " + a + ")", desk.step(b, op, a), model.step(b, op, a));
        }

        void buildUp() {
            switch (pick(16)) {
                case 0: case 1: define(); break;
                case 2: case 3: slot(); break;
                case 4: make(); break;
                case 5: generic(); break;
                case 6: case 7: case 8: method(); break;
                case 9: if (pick(4) == 0) { remove(); } break;
                case 10: clear(); break;
                default: step(); break;
            }
        }

        void define() {
            int c = pick(30) == 0 ? near(12) : 1 + pick(number % 3 == 0 ? 11 : 6);
            int s = someClass(), t = pick(2) == 0 ? -1 : someClass(), u = pick(2) == 0 ? -1 : someClass();
            check("define(" + c + ", " + s + ", " + t + ", " + u + ")", desk.define(c, s, t, u), model.define(c, s, t, u));
        }

        void slot() {
            int c = someClass(), name = near(6), how = near(4), v = pick(100) - 50;
            check("slot(" + c + ", " + name + ", " + how + ", " + v + ")", desk.slot(c, name, how, v), model.slot(c, name, how, v));
        }

        void make() {
            int c = someClass();
            check("make(" + c + ")", desk.make(c), model.make(c));
        }

        void generic() {
            int g = near(5), n = pick(20) == 0 ? pick(5) - 1 : 1 + pick(2);
            // A GENERIC that begins anew loses its METHODS, and too few would be left to call.
            if (pick(8) != 0 && g >= 0 && g < 5 && model.parameters[g] != 0) {
                return;
            }
            check("generic(" + g + ", " + n + ")", desk.generic(g, n), model.generic(g, n));
        }

        void method() {
            int g = pick(3) == 0 ? near(5) : pick(2), kind = pick(2) == 0 ? near(4) : 3 * pick(2);
            int s = specializer(), t = specializer(), body = near(8);
            check("method(" + g + ", " + kind + ", " + s + ", " + t + ", " + body + ")",
                    desk.method(g, kind, s, t, body), model.method(g, kind, s, t, body));
        }

        void remove() {
            int m = near(16);
            check("remove(" + m + ")", desk.remove(m), model.remove(m));
        }

        void clear() {
            int b = near(8);
            check("clear(" + b + ")", desk.clear(b), model.clear(b));
        }

        void step() {
            int b = near(8), op = pick(number % 2 == 0 ? 5 : 30) == 0 ? 4 : near(10);
            int a = op == 8 ? someClass() : op == 7 ? near(5) : op == 2 || op == 3 ? near(6) : pick(100) - 50;
            addStep(b, op, a);
        }

        void useSlots() {
            int i = someInstance(), name = near(6), v = pick(5) == 0 ? Integer.MAX_VALUE - pick(2) : pick(100) - 50;
            switch (pick(5)) {
                case 0: check("get(" + i + ", " + name + ")", desk.get(i, name), model.get(i, name)); break;
                case 1: case 2: check("put(" + i + ", " + name + ", " + v + ")", desk.put(i, name, v), model.put(i, name, v)); break;
                case 3: check("unbind(" + i + ", " + name + ")", desk.unbind(i, name), model.unbind(i, name)); break;
                default:
                    int c = someClass();
                    check("become(" + i + ", " + c + ")", desk.become(i, c), model.become(i, c));
            }
        }

        void useCall() {
            int g = pick(4) == 0 ? near(5) : pick(2), x = someInstance(), y = someInstance();
            check("call(" + g + ", " + x + ", " + y + ")", desk.call(g, x, y), model.call(g, x, y));
        }

        void lookAround() {
            int c = near(12), k = near(12), i = near(12), what = near(3), n = near(20), counted = near(10);
            check("precedence(" + c + ", " + k + ")", desk.precedence(c, k), model.precedence(c, k));
            check("has(" + c + ", " + k + ")", desk.has(c, k), model.has(c, k));
            check("look(" + i + ", " + what + ")", desk.look(i, what), model.look(i, what));
            check("noted(" + n + ")", desk.noted(n), model.noted(n));
            check("count(" + counted + ")", desk.count(counted), model.count(counted));
        }

        void lookAtAll() {
            for (int c = 0; c < 12; c++) {
                for (int k = 0; k < 12; k++) {
                    check("precedence(" + c + ", " + k + ")", desk.precedence(c, k), model.precedence(c, k));
                    check("has(" + c + ", " + k + ")", desk.has(c, k), model.has(c, k));
                }
            }
            for (int i = 0; i < 12; i++) {
                for (int what = 0; what < 3; what++) {
                    check("look(" + i + ", " + what + ")", desk.look(i, what), model.look(i, what));
                }
            }
            for (int k = 0; k < 21; k++) {
                check("noted(" + k + ")", desk.noted(k), model.noted(k));
            }
            for (int what = 0; what < 10; what++) {
                check("count(" + what + ")", desk.count(what), model.count(what));
            }
        }
    }

    private static final class Failure extends RuntimeException {
        private static final long serialVersionUID = 1L;
        final int code;

        Failure(int code) {
            super("an ERROR of the document", null, false, false);
            this.code = code;
        }
    }

    private static final class Instance {
        final int number;
        int of;
        Set<Integer> layout = new TreeSet<>();
        final TreeMap<Integer, Integer> values = new TreeMap<>();

        Instance(int number, int of) {
            this.number = number;
            this.of = of;
        }
    }

    private static final class Method {
        int g, kind, body;
        int[] specializers;
    }

    private static final class Model {
        final List<List<Integer>> supers = new ArrayList<>(Collections.nCopies(12, null));
        final int[][] how = new int[12][6], ints = new int[12][6];
        final List<Instance> herd = new ArrayList<>();
        final int[] parameters = new int[5];
        final Method[] methods = new Method[16];
        final List<List<int[]>> bodies = new ArrayList<>();
        final List<Integer> notes = new ArrayList<>();
        final List<Set<List<Integer>>> kept = new ArrayList<>();
        int bodiesCalled, found, layoutChanges, goodCalls, allSteps, stepsInCall;

        Model() {
            supers.set(0, new ArrayList<>());
            for (int b = 0; b < 8; b++) {
                bodies.add(new ArrayList<>());
            }
            for (int g = 0; g < 5; g++) {
                kept.add(new HashSet<>());
            }
        }

        boolean isClass(int c) {
            return c >= 0 && c < 12 && supers.get(c) != null;
        }

        boolean isInstance(int i) {
            return i >= 0 && i < herd.size();
        }

        void gather(int c, Set<Integer> into) {
            into.add(c);
            for (int d : supers.get(c)) {
                gather(d, into);
            }
        }

        boolean isSubclass(int c, int d) {
            if (c == d) {
                return true;
            }
            for (int e : supers.get(c)) {
                if (isSubclass(e, d)) {
                    return true;
                }
            }
            return false;
        }

        boolean mustStandBefore(int p, int q, Set<Integer> all) {
            if (supers.get(p).contains(q)) {
                return true;
            }
            for (int e : all) {
                int first = supers.get(e).indexOf(p), second = supers.get(e).indexOf(q);
                if (first >= 0 && second >= 0 && first < second) {
                    return true;
                }
            }
            return false;
        }

        /** null if there is none. */
        List<Integer> row(int c) {
            Set<Integer> all = new TreeSet<>();
            gather(c, all);
            List<Integer> row = new ArrayList<>();
            Set<Integer> left = new TreeSet<>(all);
            while (!left.isEmpty()) {
                int best = -1, bestPlace = -2;
                for (int p : left) {
                    boolean isFree = true;
                    for (int q : left) {
                        isFree &= q == p || !mustStandBefore(q, p, all);
                    }
                    int place = -1;
                    for (int k = 0; k < row.size(); k++) {
                        place = supers.get(row.get(k)).contains(p) ? k : place;
                    }
                    if (isFree && place > bestPlace) {
                        best = p;
                        bestPlace = place;
                    }
                }
                if (best < 0) {
                    return null;
                }
                row.add(best);
                left.remove(best);
            }
            return row;
        }

        int define(int c, int s, int t, int u) {
            if (c < 1 || c > 11 || s < 0 || s > 11 || t < -1 || t > 11 || u < -1 || u > 11) {
                return -1;
            }
            List<Integer> direct = new ArrayList<>(List.of(s));
            if (t != -1) {
                direct.add(t);
                if (u != -1) {
                    direct.add(u);
                }
            }
            if (new HashSet<>(direct).size() < direct.size()) {
                return -1;
            }
            for (int d : direct) {
                if (d != c && !isClass(d)) {
                    return -2;
                }
            }
            for (int d : direct) {
                if (d == c || isSubclass(d, c)) {
                    return -4;
                }
            }
            List<Integer> old = supers.get(c);
            supers.set(c, direct);
            for (int d = 0; d < 12; d++) {
                if (isClass(d) && isSubclass(d, c) && row(d) == null) {
                    supers.set(c, old);
                    return -5;
                }
            }
            for (Set<List<Integer>> keys : kept) {
                keys.clear();
            }
            return row(c).size();
        }

        int slot(int c, int name, int h, int v) {
            if (name < 0 || name > 5 || h < 0 || h > 3) {
                return -1;
            }
            if (!isClass(c)) {
                return -2;
            }
            how[c][name] = h;
            ints[c][name] = v;
            return 1;
        }

        int holder(int c, int name) {
            for (int d : row(c)) {
                if (how[d][name] != 0) {
                    return d;
                }
            }
            return -1;
        }

        boolean isLocal(int c, int name) {
            int d = holder(c, name);
            return d >= 0 && how[d][name] != 3;
        }

        void layOut(Instance i) {
            Set<Integer> now = new TreeSet<>();
            for (int name = 0; name < 6; name++) {
                if (isLocal(i.of, name)) {
                    now.add(name);
                    int d = holder(i.of, name);
                    if (!i.layout.contains(name) && how[d][name] == 1) {
                        i.values.put(name, ints[d][name]);
                    }
                }
            }
            i.values.keySet().retainAll(now);
            i.layout = now;
        }

        void touch(Instance i) {
            Set<Integer> old = i.layout;
            layOut(i);
            layoutChanges += old.equals(i.layout) ? 0 : 1;
        }

        int make(int c) {
            if (!isClass(c)) {
                return -2;
            }
            if (herd.size() == 12) {
                return -3;
            }
            Instance i = new Instance(herd.size(), c);
            herd.add(i);
            layOut(i);
            return i.number;
        }

        void change(Instance i, int c) {
            if (!isClass(c)) {
                throw new Failure(-2);
            }
            touch(i);
            i.of = c;
            touch(i);
        }

        int become(int i, int c) {
            if (!isInstance(i) || !isClass(c)) {
                return -2;
            }
            change(herd.get(i), c);
            return 1;
        }

        Instance reach(int i, int name) {
            if (!isInstance(i)) {
                throw new Failure(-2);
            }
            if (name < 0 || name > 5) {
                throw new Failure(-1);
            }
            touch(herd.get(i));
            if (holder(herd.get(i).of, name) < 0) {
                throw new Failure(-6);
            }
            return herd.get(i);
        }

        int read(int n, int name) {
            Instance i = reach(n, name);
            int d = holder(i.of, name);
            if (how[d][name] == 3) {
                return ints[d][name];
            }
            if (!i.values.containsKey(name)) {
                throw new Failure(-7);
            }
            return i.values.get(name);
        }

        int write(int n, int name, int v) {
            Instance i = reach(n, name);
            if (isLocal(i.of, name)) {
                i.values.put(name, v);
            } else {
                ints[holder(i.of, name)][name] = v;
            }
            return 1;
        }

        long get(int i, int name) {
            try {
                return read(i, name);
            } catch (Failure f) {
                return (1L << 40) + f.code;
            }
        }

        long put(int i, int name, int v) {
            try {
                return write(i, name, v);
            } catch (Failure f) {
                return (1L << 40) + f.code;
            }
        }

        long unbind(int n, int name) {
            try {
                Instance i = reach(n, name);
                if (!isLocal(i.of, name)) {
                    throw new Failure(-6);
                }
                return i.values.remove(name) == null ? 0 : 1;
            } catch (Failure f) {
                return (1L << 40) + f.code;
            }
        }

        int generic(int g, int n) {
            if (g < 0 || g > 4 || n < 1 || n > 2) {
                return -1;
            }
            int had = 0;
            for (int m = 0; m < 16; m++) {
                if (methods[m] != null && methods[m].g == g) {
                    methods[m] = null;
                    had++;
                }
            }
            parameters[g] = n;
            kept.get(g).clear();
            return had;
        }

        boolean isSpecializer(int s) {
            return s >= 0 && s <= 11 || s >= 16 && s <= 27;
        }

        boolean isThere(int s) {
            return s >= 16 ? isInstance(s - 16) : isClass(s);
        }

        int method(int g, int kind, int s, int t, int body) {
            if (g < 0 || g > 4 || kind < 0 || kind > 3 || body < 0 || body > 7 || !isSpecializer(s)) {
                return -1;
            }
            int[] specializers = parameters[g] == 2 ? new int[] {s, t} : new int[] {s};
            for (int k : specializers) {
                if (!isSpecializer(k)) {
                    return -1;
                }
            }
            if (parameters[g] == 0) {
                return -2;
            }
            for (int k : specializers) {
                if (!isThere(k)) {
                    return -2;
                }
            }
            return place(g, kind, specializers, body);
        }

        int place(int g, int kind, int[] specializers, int body) {
            int free = -3;
            for (int m = 15; m >= 0; m--) {
                free = methods[m] == null ? m : free;
            }
            for (int m = 0; m < 16; m++) {
                Method old = methods[m];
                if (old != null && old.g == g && old.kind == kind && java.util.Arrays.equals(old.specializers, specializers)) {
                    free = m;
                }
            }
            if (free >= 0) {
                methods[free] = new Method();
                methods[free].g = g;
                methods[free].kind = kind;
                methods[free].specializers = specializers;
                methods[free].body = body;
                kept.get(g).clear();
            }
            return free;
        }

        int remove(int m) {
            if (m < 0 || m > 15 || methods[m] == null) {
                return -2;
            }
            int g = methods[m].g;
            methods[m] = null;
            kept.get(g).clear();
            return g;
        }

        int step(int b, int op, int a) {
            if (b < 0 || b > 7 || op < 0 || op > 9) {
                return -1;
            }
            int most = op == 2 || op == 3 ? 5 : op == 7 ? 4 : op == 8 ? 11 : -1;
            if (most >= 0 && (a < 0 || a > most)) {
                return -1;
            }
            if (bodies.get(b).size() == 8) {
                return -3;
            }
            bodies.get(b).add(new int[] {op, a});
            return bodies.get(b).size();
        }

        int clear(int b) {
            if (b < 0 || b > 7) {
                return -1;
            }
            int had = bodies.get(b).size();
            bodies.get(b).clear();
            return had;
        }

        boolean fits(int specializer, int i) {
            return specializer >= 16 ? specializer - 16 == i : isSubclass(herd.get(i).of, specializer);
        }

        /** Below 0 if m is the more specific one. */
        int compare(Method m, Method n, int[] arguments) {
            for (int k = 0; k < m.specializers.length; k++) {
                int a = m.specializers[k], b = n.specializers[k];
                if (a != b) {
                    List<Integer> row = row(herd.get(arguments[k]).of);
                    return a >= 16 ? -1 : b >= 16 ? 1 : row.indexOf(a) - row.indexOf(b);
                }
            }
            return 0;
        }

        List<Method> applicable(int g, int[] arguments) {
            List<Method> all = new ArrayList<>();
            boolean isOfInstance = false;
            for (Method m : methods) {
                if (m != null && m.g == g) {
                    boolean fits = true, names = false;
                    for (int k = 0; k < arguments.length; k++) {
                        fits &= fits(m.specializers[k], arguments[k]);
                        names |= m.specializers[k] >= 16;
                    }
                    if (fits) {
                        all.add(m);
                        isOfInstance |= names;
                    }
                }
            }
            all.sort((m, n) -> compare(m, n, arguments));
            List<Integer> key = new ArrayList<>();
            for (int i : arguments) {
                key.add(herd.get(i).of);
            }
            if (isOfInstance) {
                found++;
            } else if (kept.get(g).add(key)) {
                found++;
            }
            return all;
        }

        List<Method> ofKind(List<Method> all, int kind) {
            List<Method> some = new ArrayList<>();
            for (Method m : all) {
                if (m.kind == kind) {
                    some.add(m);
                }
            }
            return some;
        }

        int invoke(int g, int[] given, int atWork) {
            if (parameters[g] == 0) {
                throw new Failure(-2);
            }
            if (atWork == 12) {
                throw new Failure(-11);
            }
            int[] arguments = parameters[g] == 1 ? new int[] {given[0]} : new int[] {given[0], given[given.length - 1]};
            List<Method> all = applicable(g, arguments);
            if (all.isEmpty()) {
                throw new Failure(-8);
            }
            if (ofKind(all, 0).isEmpty()) {
                throw new Failure(-9);
            }
            return around(all, 0, arguments, atWork + 1);
        }

        int around(List<Method> all, int from, int[] arguments, int atWork) {
            List<Method> arounds = ofKind(all, 3);
            if (from < arounds.size()) {
                return work(arounds.get(from), all, from, arguments, atWork);
            }
            for (Method m : ofKind(all, 1)) {
                work(m, all, 0, arguments, atWork);
            }
            int sum = work(ofKind(all, 0).get(0), all, 0, arguments, atWork);
            List<Method> afters = ofKind(all, 2);
            Collections.reverse(afters);
            for (Method m : afters) {
                work(m, all, 0, arguments, atWork);
            }
            return sum;
        }

        int next(Method m, List<Method> all, int at, int[] arguments, int atWork) {
            if (m.kind == 3) {
                return around(all, at + 1, arguments, atWork);
            }
            if (m.kind != 0 || at + 1 == ofKind(all, 0).size()) {
                throw new Failure(-10);
            }
            return work(ofKind(all, 0).get(at + 1), all, at + 1, arguments, atWork);
        }

        boolean hasNext(Method m, List<Method> all, int at) {
            return m.kind == 3 || m.kind == 0 && at + 1 < ofKind(all, 0).size();
        }

        int work(Method m, List<Method> all, int at, int[] arguments, int atWork) {
            bodiesCalled++;
            int sum = 0;
            int[] own = arguments.clone();
            for (int[] step : bodies.get(m.body)) {
                if (stepsInCall == 300) {
                    throw new Failure(-11);
                }
                stepsInCall++;
                allSteps++;
                int a = step[1];
                switch (step[0]) {
                    case 0: sum = a; break;
                    case 1: sum += a; break;
                    case 2: sum += read(own[0], a); break;
                    case 3: write(own[0], a, sum); break;
                    case 4: sum += next(m, all, at, arguments, atWork); break;
                    case 5: sum = hasNext(m, all, at) ? 1 : 0; break;
                    case 6: notes.add(a); break;
                    case 7: sum += invoke(a, own, atWork); break;
                    case 8: change(herd.get(own[0]), a); break;
                    default: own = own.length == 2 ? new int[] {own[1], own[0]} : own;
                }
            }
            return sum;
        }

        long call(int g, int x, int y) {
            if (g < 0 || g > 4 || parameters[g] == 0 || !isInstance(x) || parameters[g] == 2 && !isInstance(y)) {
                return (1L << 40) - 2;
            }
            stepsInCall = 0;
            try {
                int sum = invoke(g, new int[] {x, y}, 0);
                goodCalls++;
                return sum;
            } catch (Failure f) {
                return (1L << 40) + f.code;
            }
        }

        int precedence(int c, int k) {
            return isClass(c) && k >= 0 && k < row(c).size() ? row(c).get(k) : -2;
        }

        int has(int c, int name) {
            return !isClass(c) ? -2 : name < 0 || name > 5 ? -1 : holder(c, name);
        }

        int sum(Set<Integer> names) {
            int sum = 0;
            for (int name : names) {
                sum += 1 << name;
            }
            return sum;
        }

        int look(int n, int what) {
            if (!isInstance(n) || what < 0 || what > 2) {
                return -2;
            }
            Instance i = herd.get(n);
            return what == 0 ? i.of : sum(what == 1 ? i.layout : i.values.keySet());
        }

        int noted(int k) {
            return k >= 0 && k < 20 && k < notes.size() ? notes.get(notes.size() - 1 - k) : -2;
        }

        int count(int what) {
            int classes = 0, there = 0, keys = 0;
            for (int c = 0; c < 12; c++) {
                classes += isClass(c) ? 1 : 0;
            }
            for (Method m : methods) {
                there += m != null ? 1 : 0;
            }
            for (Set<List<Integer>> some : kept) {
                keys += some.size();
            }
            int[] all = {classes, herd.size(), there, notes.size(), bodiesCalled, found, keys, layoutChanges, goodCalls, allSteps};
            return what >= 0 && what < all.length ? all[what] : -1;
        }
    }
}
