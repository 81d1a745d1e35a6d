/** The objects of a Lisp; ../shared/DOC.md says what each call answers. */
public final class ClassDesk {
    public static final int REFUSED = -1, NONE = -2, FULL = -3, CYCLE = -4, ORDER = -5;
    public static final int MISSING = -6, UNBOUND = -7, INAPPLICABLE = -8, ALONE = -9, LAST = -10, DEEP = -11;
    public static final long ERROR = 1L << 40;

    private static final int CLASSES = 12;
    private static final int MOST_SUPERS = 3;
    private static final int NO_CLASS = -1;
    private static final int NAMES = 6;
    private static final int INSTANCES = 12;
    private static final int GENERICS = 5;
    private static final int METHODS = 16;
    private static final int BODIES = 8;
    private static final int MOST_STEPS = 8;

    /** What slot() says of a direct SLOT. */
    private static final int WITHOUT_SLOT = 0, LOCAL_WITH_INITIAL = 1, SHARED = 3;

    /** A SPECIALIZER from here on is an INSTANCE; below it, a class. */
    private static final int FIRST_INSTANCE = 16;
    private static final int NO_SPECIALIZER = -1;

    private static final int PRIMARY = 0, BEFORE = 1, AFTER = 2, AROUND = 3;

    private static final int SAY = 0, ADD = 1, GET = 2, PUT = 3, NEXT = 4;
    private static final int HASNEXT = 5, NOTE = 6, CALL = 7, BECOME = 8, SWAP = 9;

    private final Classes classes = new Classes();
    private final Instances instances = new Instances(classes);
    private final Methods methods = new Methods();
    private final Keeper keeper = new Keeper(classes, instances, methods);
    private final Bodies bodies = new Bodies();
    private final Notes notes = new Notes();
    private final Machine machine = new Machine(classes, instances, methods, keeper, bodies, notes);
    private int goodCalls = 0;

    public ClassDesk() {
    }

    public int define(int c, int s, int t, int u) {
        if (!isWithin(c, 1, CLASSES - 1) || !Classes.mayBeSupers(s, t, u)) {
            return REFUSED;
        }
        int answer = classes.settle(c, s, t, t == NO_CLASS ? NO_CLASS : u);
        if (answer > 0) {
            keeper.forgetAll();
        }
        return answer;
    }

    public int slot(int c, int name, int how, int v) {
        if (!isName(name) || !isWithin(how, WITHOUT_SLOT, SHARED)) {
            return REFUSED;
        }
        if (!classes.isThere(c)) {
            return NONE;
        }
        classes.setSlot(c, name, how, v);
        return 1;
    }

    public int make(int c) {
        if (!classes.isThere(c)) {
            return NONE;
        }
        return instances.create(c);
    }

    public int become(int i, int c) {
        if (!instances.isThere(i) || !classes.isThere(c)) {
            return NONE;
        }
        instances.changeClass(i, c);
        return 1;
    }

    public long get(int i, int name) {
        int refusal = refusalOfSlot(i, name);
        return refusal != 0 ? ERROR + refusal : instances.read(i, name);
    }

    public long put(int i, int name, int v) {
        int refusal = refusalOfSlot(i, name);
        return refusal != 0 ? ERROR + refusal : instances.write(i, name, v);
    }

    public long unbind(int i, int name) {
        int refusal = refusalOfSlot(i, name);
        return refusal != 0 ? ERROR + refusal : instances.dropValue(i, name);
    }

    public int generic(int g, int n) {
        if (!isGeneric(g) || !isWithin(n, 1, 2)) {
            return REFUSED;
        }
        keeper.forget(g);
        return methods.startGeneric(g, n);
    }

    public int method(int g, int kind, int s, int t, int body) {
        if (!isGeneric(g) || !isWithin(kind, PRIMARY, AROUND) || !isBody(body)) {
            return REFUSED;
        }
        int parameters = methods.parametersOf(g);
        // There is a SPECIALIZER for each PARAMETER, so t is none before there are two of them.
        boolean hasSecond = parameters == 2;
        if (!isSpecializer(s) || (hasSecond && !isSpecializer(t))) {
            return REFUSED;
        }
        if (parameters == 0 || !isSpecializerThere(s) || (hasSecond && !isSpecializerThere(t))) {
            return NONE;
        }
        int m = methods.settle(g, kind, s, hasSecond ? t : NO_SPECIALIZER, body);
        if (m >= 0) {
            keeper.forget(g);
        }
        return m;
    }

    public int remove(int m) {
        if (!methods.isThere(m)) {
            return NONE;
        }
        int g = methods.takeAway(m);
        keeper.forget(g);
        return g;
    }

    public int step(int b, int op, int a) {
        if (!isBody(b) || !isWithin(op, SAY, SWAP) || !mayBeOperand(op, a)) {
            return REFUSED;
        }
        return bodies.append(b, op, a);
    }

    public int clear(int b) {
        return isBody(b) ? bodies.empty(b) : REFUSED;
    }

    public long call(int g, int x, int y) {
        if (!isGeneric(g)) {
            return ERROR + NONE;
        }
        int parameters = methods.parametersOf(g);
        if (parameters == 0 || !instances.isThere(x) || (parameters == 2 && !instances.isThere(y))) {
            return ERROR + NONE;
        }
        long answer = machine.run(g, x, y);
        if (!isError(answer)) {
            goodCalls++;
        }
        return answer;
    }

    public int precedence(int c, int k) {
        return classes.isThere(c) ? classes.inPrecedence(c, k) : NONE;
    }

    public int has(int c, int name) {
        if (!classes.isThere(c)) {
            return NONE;
        }
        return isName(name) ? classes.holder(c, name) : REFUSED;
    }

    public int look(int i, int what) {
        if (!instances.isThere(i)) {
            return NONE;
        }
        switch (what) {
            case 0: return instances.classOf(i);
            case 1: return instances.layoutOf(i);
            case 2: return instances.valuesOf(i);
            default: return NONE;
        }
    }

    public int noted(int k) {
        return notes.beforeLatest(k);
    }

    public int count(int what) {
        switch (what) {
            case 0: return classes.total();
            case 1: return instances.total();
            case 2: return methods.total();
            case 3: return notes.total();
            case 4: return machine.bodiesCalled();
            case 5: return keeper.timesFound();
            case 6: return keeper.total();
            case 7: return instances.layoutChanges();
            case 8: return goodCalls;
            case 9: return machine.stepsDone();
            default: return REFUSED;
        }
    }

    /** 0 if INSTANCE i may be asked for a SLOT of that name. */
    private int refusalOfSlot(int i, int name) {
        if (!instances.isThere(i)) {
            return NONE;
        }
        return isName(name) ? 0 : REFUSED;
    }

    private boolean isSpecializerThere(int s) {
        return s >= FIRST_INSTANCE ? instances.isThere(s - FIRST_INSTANCE) : classes.isThere(s);
    }

    private static boolean isSpecializer(int s) {
        return isWithin(s, 0, CLASSES - 1) || isWithin(s, FIRST_INSTANCE, FIRST_INSTANCE + INSTANCES - 1);
    }

    private static boolean mayBeOperand(int op, int a) {
        switch (op) {
            case GET:
            case PUT: return isName(a);
            case CALL: return isGeneric(a);
            case BECOME: return isWithin(a, 0, CLASSES - 1);
            default: return true;
        }
    }

    private static boolean isName(int name) {
        return isWithin(name, 0, NAMES - 1);
    }

    private static boolean isGeneric(int g) {
        return isWithin(g, 0, GENERICS - 1);
    }

    private static boolean isBody(int b) {
        return isWithin(b, 0, BODIES - 1);
    }

    private static boolean isWithin(int n, int low, int high) {
        return n >= low && n <= high;
    }

    /** Answers are ints, so what lies beyond them is ERROR + something. */
    private static boolean isError(long answer) {
        return answer > Integer.MAX_VALUE;
    }

    private static boolean isIn(int set, int member) {
        return (set >> member & 1) != 0;
    }

    /** The classes with their direct SUPERS, their PRECEDENCE and their direct SLOTS. */
    private static final class Classes {
        private final int[] supers = new int[CLASSES * MOST_SUPERS];
        private final int[] rows = new int[CLASSES * CLASSES];
        /** How long the PRECEDENCE of each class is: 0 if the class is not there. */
        private final int[] lengths = new int[CLASSES];
        private final int[] slotHow = new int[CLASSES * NAMES];
        private final int[] slotInt = new int[CLASSES * NAMES];
        private int there = 1;
        /** The row that is being built, and the sets of classes that must stand before each in it. */
        private final int[] draft = new int[CLASSES];
        private final int[] mustStandBefore = new int[CLASSES];

        Classes() {
            for (int k = 0; k < supers.length; k++) {
                supers[k] = NO_CLASS;
            }
            lengths[0] = 1;
        }

        static boolean mayBeSupers(int s, int t, int u) {
            if (!isWithin(s, 0, CLASSES - 1) || !isWithin(t, NO_CLASS, CLASSES - 1)
                    || !isWithin(u, NO_CLASS, CLASSES - 1)) {
                return false;
            }
            return t == NO_CLASS || (s != t && s != u && t != u);
        }

        int total() {
            return there;
        }

        boolean isThere(int c) {
            return isWithin(c, 0, CLASSES - 1) && lengths[c] > 0;
        }

        /** Defines c (anew) with SUPERS that are in range: the length of its PRECEDENCE, or a refusal. */
        int settle(int c, int s, int t, int u) {
            if (!mayBeNamed(c, s) || !mayBeNamed(c, t) || !mayBeNamed(c, u)) {
                return NONE;
            }
            if (isBelow(s, c) || isBelow(t, c) || isBelow(u, c)) {
                return CYCLE;
            }
            int oldS = supers[c * MOST_SUPERS];
            int oldT = supers[c * MOST_SUPERS + 1];
            int oldU = supers[c * MOST_SUPERS + 2];
            setSupers(c, s, t, u);
            if (!allHavePrecedence(c)) {
                setSupers(c, oldS, oldT, oldU);
                return ORDER;
            }
            if (lengths[c] == 0) {
                there++;
            }
            renewRows(c);
            return lengths[c];
        }

        private boolean mayBeNamed(int c, int above) {
            return above == NO_CLASS || above == c || isThere(above);
        }

        private void setSupers(int c, int s, int t, int u) {
            supers[c * MOST_SUPERS] = s;
            supers[c * MOST_SUPERS + 1] = t;
            supers[c * MOST_SUPERS + 2] = u;
        }

        private boolean allHavePrecedence(int c) {
            for (int d = 0; d < CLASSES; d++) {
                if (isBelow(d, c) && draw(d) == 0) {
                    return false;
                }
            }
            return true;
        }

        private void renewRows(int c) {
            for (int d = 0; d < CLASSES; d++) {
                if (isBelow(d, c)) {
                    lengths[d] = draw(d);
                    System.arraycopy(draft, 0, rows, d * CLASSES, lengths[d]);
                }
            }
        }

        /** Whether d is a SUBCLASS of c, also where c is not there yet. */
        private boolean isBelow(int d, int c) {
            return d == c || (isThere(d) && placeOf(d, c) >= 0);
        }

        /** Builds in draft the PRECEDENCE of c that follows from the SUPERS: its length, 0 if there is none. */
        private int draw(int c) {
            int all = allAbove(c);
            noteWhatStandsBefore(all);
            draft[0] = c;
            int length = 1;
            int left = all & ~(1 << c);
            while (left != 0 && length < CLASSES) {
                int next = nextInDraft(length, left);
                if (next == NO_CLASS) {
                    return 0;
                }
                draft[length] = next;
                length++;
                left &= ~(1 << next);
            }
            return length;
        }

        /** The set of c and all that is above it. */
        private int allAbove(int c) {
            int all = 1 << c;
            // A chain of SUPERS is shorter than CLASSES, so as many rounds reach its end.
            for (int round = 0; round < CLASSES; round++) {
                int before = all;
                for (int d = 0; d < CLASSES; d++) {
                    if (isIn(before, d)) {
                        all |= directlyAbove(d);
                    }
                }
                if (all == before) {
                    break;
                }
            }
            return all;
        }

        private int directlyAbove(int c) {
            int set = 0;
            for (int k = c * MOST_SUPERS; k < (c + 1) * MOST_SUPERS; k++) {
                if (supers[k] != NO_CLASS) {
                    set |= 1 << supers[k];
                }
            }
            return set;
        }

        private void noteWhatStandsBefore(int all) {
            for (int d = 0; d < CLASSES; d++) {
                mustStandBefore[d] = 0;
            }
            for (int d = 0; d < CLASSES; d++) {
                if (isIn(all, d)) {
                    noteWhatStandsBeforeSupers(d);
                }
            }
        }

        private void noteWhatStandsBeforeSupers(int d) {
            int earlier = 1 << d;
            for (int k = d * MOST_SUPERS; k < (d + 1) * MOST_SUPERS; k++) {
                int above = supers[k];
                if (above != NO_CLASS) {
                    mustStandBefore[above] |= earlier;
                    earlier |= 1 << above;
                }
            }
        }

        /** The class for the next place: a free one with a direct SUBCLASS furthest back; NO_CLASS if none. */
        private int nextInDraft(int length, int left) {
            for (int place = length - 1; place >= 0; place--) {
                int below = draft[place];
                // Of the SUPERS of one class only one can be free, since they stand in their order.
                for (int k = below * MOST_SUPERS; k < (below + 1) * MOST_SUPERS; k++) {
                    int above = supers[k];
                    if (above != NO_CLASS && isIn(left, above) && (mustStandBefore[above] & left) == 0) {
                        return above;
                    }
                }
            }
            return NO_CLASS;
        }

        int inPrecedence(int c, int k) {
            return isWithin(k, 0, lengths[c] - 1) ? rows[c * CLASSES + k] : NONE;
        }

        /** Where d stands in the PRECEDENCE of c: -1 if c is no SUBCLASS of it. */
        int placeOf(int c, int d) {
            for (int k = 0; k < lengths[c]; k++) {
                if (rows[c * CLASSES + k] == d) {
                    return k;
                }
            }
            return -1;
        }

        void setSlot(int c, int name, int how, int v) {
            slotHow[c * NAMES + name] = how;
            slotInt[c * NAMES + name] = v;
        }

        /** The class whose direct SLOT of that name c HAS, or NO_CLASS. */
        int holder(int c, int name) {
            for (int k = 0; k < lengths[c]; k++) {
                int d = rows[c * CLASSES + k];
                if (slotHow[d * NAMES + name] != WITHOUT_SLOT) {
                    return d;
                }
            }
            return NO_CLASS;
        }

        boolean isShared(int c, int name) {
            return slotHow[c * NAMES + name] == SHARED;
        }

        boolean hasInitial(int c, int name) {
            return slotHow[c * NAMES + name] == LOCAL_WITH_INITIAL;
        }

        /** The INITIAL or SHARED int of a direct SLOT. */
        int slotIntOf(int c, int name) {
            return slotInt[c * NAMES + name];
        }

        void setSlotInt(int c, int name, int v) {
            slotInt[c * NAMES + name] = v;
        }
    }

    /** The INSTANCES; sets of names are held as sums of 2^name. */
    private static final class Instances {
        private final Classes classes;
        private final int[] classNumbers = new int[INSTANCES];
        private final int[] layouts = new int[INSTANCES];
        private final int[] bound = new int[INSTANCES];
        private final int[] values = new int[INSTANCES * NAMES];
        private int made = 0;
        private int changes = 0;

        Instances(Classes classes) {
            this.classes = classes;
        }

        int total() {
            return made;
        }

        int layoutChanges() {
            return changes;
        }

        boolean isThere(int i) {
            return isWithin(i, 0, made - 1);
        }

        int classOf(int i) {
            return classNumbers[i];
        }

        int layoutOf(int i) {
            return layouts[i];
        }

        int valuesOf(int i) {
            return bound[i];
        }

        int create(int c) {
            if (made == INSTANCES) {
                return FULL;
            }
            int i = made;
            made++;
            classNumbers[i] = c;
            // Being made is no change by TOUCHING, so the answer is not counted.
            touch(i);
            return i;
        }

        void changeClass(int i, int c) {
            changes += touch(i);
            classNumbers[i] = c;
            changes += touch(i);
        }

        /** Brings INSTANCE i to the LAYOUT that its class asks for now: 1 if that is another one, else 0. */
        private int touch(int i) {
            int old = layouts[i];
            int local = 0;
            for (int name = 0; name < NAMES; name++) {
                int holder = classes.holder(classNumbers[i], name);
                if (holder == NO_CLASS || classes.isShared(holder, name)) {
                    bound[i] &= ~(1 << name);
                    continue;
                }
                local |= 1 << name;
                if (!isIn(old, name) && classes.hasInitial(holder, name)) {
                    setValue(i, name, classes.slotIntOf(holder, name));
                }
            }
            layouts[i] = local;
            return local != old ? 1 : 0;
        }

        private void setValue(int i, int name, int v) {
            values[i * NAMES + name] = v;
            bound[i] |= 1 << name;
        }

        long read(int i, int name) {
            changes += touch(i);
            int holder = classes.holder(classNumbers[i], name);
            if (holder == NO_CLASS) {
                return ERROR + MISSING;
            }
            if (classes.isShared(holder, name)) {
                return classes.slotIntOf(holder, name);
            }
            return isIn(bound[i], name) ? values[i * NAMES + name] : ERROR + UNBOUND;
        }

        long write(int i, int name, int v) {
            changes += touch(i);
            int holder = classes.holder(classNumbers[i], name);
            if (holder == NO_CLASS) {
                return ERROR + MISSING;
            }
            if (classes.isShared(holder, name)) {
                classes.setSlotInt(holder, name, v);
            } else {
                setValue(i, name, v);
            }
            return 1;
        }

        long dropValue(int i, int name) {
            changes += touch(i);
            if (!isIn(layouts[i], name)) {
                return ERROR + MISSING;
            }
            if (!isIn(bound[i], name)) {
                return 0;
            }
            bound[i] &= ~(1 << name);
            return 1;
        }
    }

    /** The GENERICS' PARAMETERS, and the METHODS of all of them. */
    private static final class Methods {
        private static final int FREE = -1;
        private final int[] parameters = new int[GENERICS];
        private final int[] owners = new int[METHODS];
        private final int[] kinds = new int[METHODS];
        private final int[] firsts = new int[METHODS];
        private final int[] seconds = new int[METHODS];
        private final int[] bodyNumbers = new int[METHODS];
        private int there = 0;

        Methods() {
            for (int m = 0; m < METHODS; m++) {
                owners[m] = FREE;
            }
        }

        int total() {
            return there;
        }

        int parametersOf(int g) {
            return parameters[g];
        }

        boolean isThere(int m) {
            return isWithin(m, 0, METHODS - 1) && owners[m] != FREE;
        }

        boolean isOf(int m, int g) {
            return owners[m] == g;
        }

        int kindOf(int m) {
            return kinds[m];
        }

        int firstOf(int m) {
            return firsts[m];
        }

        /** NO_SPECIALIZER where the GENERIC has 1 PARAMETER. */
        int secondOf(int m) {
            return seconds[m];
        }

        boolean namesInstance(int m) {
            return firsts[m] >= FIRST_INSTANCE || seconds[m] >= FIRST_INSTANCE;
        }

        int bodyOf(int m) {
            return bodyNumbers[m];
        }

        /** How many METHODS the GENERIC loses by this. */
        int startGeneric(int g, int n) {
            int lost = 0;
            for (int m = 0; m < METHODS; m++) {
                if (isOf(m, g)) {
                    takeAway(m);
                    lost++;
                }
            }
            parameters[g] = n;
            return lost;
        }

        int settle(int g, int kind, int first, int second, int body) {
            int m = alike(g, kind, first, second);
            if (m < 0) {
                m = leastFree();
                if (m < 0) {
                    return FULL;
                }
                there++;
            }
            owners[m] = g;
            kinds[m] = kind;
            firsts[m] = first;
            seconds[m] = second;
            bodyNumbers[m] = body;
            return m;
        }

        private int alike(int g, int kind, int first, int second) {
            for (int m = 0; m < METHODS; m++) {
                if (isOf(m, g) && kinds[m] == kind && firsts[m] == first && seconds[m] == second) {
                    return m;
                }
            }
            return -1;
        }

        private int leastFree() {
            for (int m = 0; m < METHODS; m++) {
                if (owners[m] == FREE) {
                    return m;
                }
            }
            return -1;
        }

        int takeAway(int m) {
            int g = owners[m];
            owners[m] = FREE;
            there--;
            return g;
        }
    }

    /** METHODS that are APPLICABLE, in the order of work: AROUNDS, BEFORES, PRIMARIES, AFTERS. */
    private static final class Effective {
        final int[] row = new int[METHODS];
        int size = 0;
        /** The places where each KIND begins; the AROUNDS begin at 0. */
        int befores = 0;
        int primaries = 0;
        int afters = 0;
        /** The age of its GENERIC in which it was kept: see Keeper. */
        int age = 0;

        void insert(int m, int place) {
            for (int k = size; k > place; k--) {
                row[k] = row[k - 1];
            }
            row[place] = m;
            size++;
        }

        boolean hasPrimary() {
            return primaries < afters;
        }

        int firstPlace() {
            return befores > 0 ? 0 : primaries;
        }

        /** The place of what NEXT reaches from a place: -1 if nothing. */
        int nextPlace(int place) {
            if (place < befores) {
                return place + 1 < befores ? place + 1 : primaries;
            }
            return place >= primaries && place + 1 < afters ? place + 1 : -1;
        }

        /** Whether a BEFORE or AFTER stands there, so that what it gives does not matter. */
        boolean isAside(int place) {
            return (place >= befores && place < primaries) || place >= afters;
        }
    }

    /** Finds EFFECTIVE METHODS, and keeps them. */
    private static final class Keeper {
        private final Classes classes;
        private final Instances instances;
        private final Methods methods;
        private final Effective[] table = new Effective[GENERICS * CLASSES * CLASSES];
        /** Grows when those of a GENERIC are forgotten: what was kept at another age is forgotten. */
        private final int[] ages = new int[GENERICS];
        private final int[] kept = new int[GENERICS];
        /** The ranks of all METHODS while some are found: -1 if not APPLICABLE. */
        private final int[] ranks = new int[METHODS];
        private int found = 0;

        Keeper(Classes classes, Instances instances, Methods methods) {
            this.classes = classes;
            this.instances = instances;
            this.methods = methods;
        }

        int timesFound() {
            return found;
        }

        int total() {
            int sum = 0;
            for (int g = 0; g < GENERICS; g++) {
                sum += kept[g];
            }
            return sum;
        }

        void forget(int g) {
            ages[g]++;
            kept[g] = 0;
        }

        void forgetAll() {
            for (int g = 0; g < GENERICS; g++) {
                forget(g);
            }
        }

        /** Those for INSTANCES x and y; what can't be kept is found in spare, which the caller uses again. */
        Effective effectiveFor(int g, int x, int y, Effective spare) {
            if (isForInstances(g, x, y)) {
                findAnew(g, x, y, spare);
                return spare;
            }
            int secondClass = methods.parametersOf(g) == 2 ? instances.classOf(y) : 0;
            int key = (g * CLASSES + instances.classOf(x)) * CLASSES + secondClass;
            Effective known = table[key];
            if (known == null) {
                known = new Effective();
                table[key] = known;
            } else if (known.age == ages[g]) {
                return known;
            }
            findAnew(g, x, y, known);
            known.age = ages[g];
            kept[g]++;
            return known;
        }

        /** Whether a METHOD is APPLICABLE that has an INSTANCE as a SPECIALIZER. */
        private boolean isForInstances(int g, int x, int y) {
            for (int m = 0; m < METHODS; m++) {
                if (methods.isOf(m, g) && methods.namesInstance(m) && rankOf(m, x, y) >= 0) {
                    return true;
                }
            }
            return false;
        }

        private void findAnew(int g, int x, int y, Effective into) {
            found++;
            for (int m = 0; m < METHODS; m++) {
                ranks[m] = methods.isOf(m, g) ? rankOf(m, x, y) : -1;
            }
            into.size = 0;
            addKind(AROUND, into);
            into.befores = into.size;
            addKind(BEFORE, into);
            into.primaries = into.size;
            addKind(PRIMARY, into);
            into.afters = into.size;
            addKind(AFTER, into);
        }

        private void addKind(int kind, Effective into) {
            int start = into.size;
            for (int m = 0; m < METHODS; m++) {
                if (ranks[m] >= 0 && methods.kindOf(m) == kind) {
                    // AFTERS go from the least specific one on.
                    into.insert(m, placeFor(m, start, into, kind == AFTER));
                }
            }
        }

        /** Where METHOD m goes among those of its KIND, which stand from place start on. */
        private int placeFor(int m, int start, Effective into, boolean isBackward) {
            int place = start;
            while (place < into.size && (ranks[into.row[place]] < ranks[m]) != isBackward) {
                place++;
            }
            return place;
        }

        /** The lower, the more specific; -1 if the METHOD is not APPLICABLE. */
        private int rankOf(int m, int x, int y) {
            int first = rankAt(methods.firstOf(m), x);
            if (first < 0 || methods.secondOf(m) == NO_SPECIALIZER) {
                return first;
            }
            int second = rankAt(methods.secondOf(m), y);
            return second < 0 ? -1 : first * (CLASSES + 1) + second;
        }

        private int rankAt(int specializer, int i) {
            if (specializer >= FIRST_INSTANCE) {
                return specializer - FIRST_INSTANCE == i ? 0 : -1;
            }
            int place = classes.placeOf(instances.classOf(i), specializer);
            return place < 0 ? -1 : place + 1;
        }
    }

    /** The BODIES' rows of steps. */
    private static final class Bodies {
        private final int[] sizes = new int[BODIES];
        private final int[] ops = new int[BODIES * MOST_STEPS];
        private final int[] operands = new int[BODIES * MOST_STEPS];

        int append(int b, int op, int a) {
            if (sizes[b] == MOST_STEPS) {
                return FULL;
            }
            ops[b * MOST_STEPS + sizes[b]] = op;
            operands[b * MOST_STEPS + sizes[b]] = a;
            sizes[b]++;
            return sizes[b];
        }

        int empty(int b) {
            int had = sizes[b];
            sizes[b] = 0;
            return had;
        }

        int sizeOf(int b) {
            return sizes[b];
        }

        int opOf(int b, int k) {
            return ops[b * MOST_STEPS + k];
        }

        int operandOf(int b, int k) {
            return operands[b * MOST_STEPS + k];
        }
    }

    /** The ints NOTED, of which the latest are kept in a ring. */
    private static final class Notes {
        private static final int KEPT = 20;
        private final int[] ring = new int[KEPT];
        private int nextPlace = 0;
        private int filled = 0;
        private int all = 0;

        int total() {
            return all;
        }

        void take(int a) {
            ring[nextPlace] = a;
            nextPlace = (nextPlace + 1) % KEPT;
            filled = Math.min(filled + 1, KEPT);
            all++;
        }

        int beforeLatest(int k) {
            return isWithin(k, 0, filled - 1) ? ring[(nextPlace + KEPT - 1 - k) % KEPT] : NONE;
        }
    }

    /** A GENERIC at work. */
    private static final class Work {
        final Effective spare = new Effective();
        Effective effective = spare;
        int parameters = 1;
        int x = 0;
        int y = 0;
        /** How many BODIES were open when it began. */
        int openBelow = 0;
    }

    /** A BODY at work. */
    private static final class Frame {
        Work work;
        int place = 0;
        int body = 0;
        int sum = 0;
        int stepsBehind = 0;
        boolean hasBegun = false;
        boolean isSwapped = false;
        /** The places of the BEFORES, and later of the AFTERS, that the most specific PRIMARY waits for. */
        int aside = 0;
        int asideEnd = 0;
        boolean awaitsAfters = false;

        Frame(Work work) {
            this.work = work;
        }

        int firstArgument() {
            return isSwapped ? work.y : work.x;
        }

        int secondArgument() {
            return isSwapped ? work.x : work.y;
        }
    }

    /**
     * Does what call() asks. Open BODIES stand in a stack of its own, not in Java's,
     * since 12 GENERICS with 16 METHODS each may be open at once.
     */
    private static final class Machine {
        private static final int MOST_AT_WORK = 12;
        private static final int MOST_OPEN = MOST_AT_WORK * METHODS;
        private static final int MOST_STEPS_IN_CALL = 300;
        /** Far above what 300 steps, each of which opens 16 BODIES, can need. */
        private static final int MOST_TURNS = 1000000;
        private static final int NO_GENERIC = -1;

        private final Classes classes;
        private final Instances instances;
        private final Methods methods;
        private final Keeper keeper;
        private final Bodies bodies;
        private final Notes notes;
        private final Work[] works = new Work[MOST_AT_WORK];
        private final Frame[] frames = new Frame[MOST_OPEN];
        private int atWork = 0;
        private int open = 0;
        private int stepsInCall = 0;
        private int error = 0;
        private int given = 0;
        /** The GENERIC that is to begin in the next turn, and its arguments. */
        private int wanted = NO_GENERIC;
        private int wantedX = 0;
        private int wantedY = 0;
        private int allBodies = 0;
        private int allSteps = 0;

        Machine(Classes classes, Instances instances, Methods methods, Keeper keeper, Bodies bodies, Notes notes) {
            this.classes = classes;
            this.instances = instances;
            this.methods = methods;
            this.keeper = keeper;
            this.bodies = bodies;
            this.notes = notes;
        }

        int bodiesCalled() {
            return allBodies;
        }

        int stepsDone() {
            return allSteps;
        }

        long run(int g, int x, int y) {
            atWork = 0;
            open = 0;
            stepsInCall = 0;
            error = 0;
            want(g, x, y);
            for (int turn = 0; turn < MOST_TURNS && error == 0; turn++) {
                Frame frame = innermost();
                if (wanted != NO_GENERIC) {
                    beginWanted();
                } else if (frame != null) {
                    advance(frame);
                } else {
                    break;
                }
            }
            return error != 0 ? ERROR + error : given;
        }

        /** The BODY that was opened last and is not closed: null if there is none. */
        private Frame innermost() {
            return open > 0 ? frames[open - 1] : null;
        }

        private void want(int g, int x, int y) {
            wanted = g;
            wantedX = x;
            wantedY = y;
        }

        private void beginWanted() {
            int g = wanted;
            wanted = NO_GENERIC;
            if (methods.parametersOf(g) == 0) {
                error = NONE;
                return;
            }
            if (atWork == MOST_AT_WORK) {
                error = DEEP;
                return;
            }
            if (works[atWork] == null) {
                works[atWork] = new Work();
            }
            Work work = works[atWork];
            work.effective = keeper.effectiveFor(g, wantedX, wantedY, work.spare);
            if (work.effective.size == 0) {
                error = INAPPLICABLE;
                return;
            }
            if (!work.effective.hasPrimary()) {
                error = ALONE;
                return;
            }
            atWork++;
            work.parameters = methods.parametersOf(g);
            work.x = wantedX;
            work.y = wantedY;
            work.openBelow = open;
            openFrame(work, work.effective.firstPlace());
        }

        private void openFrame(Work work, int place) {
            if (open == MOST_OPEN) {
                error = DEEP;
                return;
            }
            if (frames[open] == null) {
                frames[open] = new Frame(work);
            }
            Frame frame = frames[open];
            open++;
            Effective effective = work.effective;
            boolean isMain = place == effective.primaries;
            frame.work = work;
            frame.place = place;
            frame.body = methods.bodyOf(effective.row[place]);
            frame.sum = 0;
            frame.stepsBehind = 0;
            frame.hasBegun = false;
            frame.isSwapped = false;
            frame.aside = isMain ? effective.befores : 0;
            frame.asideEnd = isMain ? effective.primaries : 0;
            frame.awaitsAfters = isMain;
        }

        private void advance(Frame frame) {
            if (frame.aside < frame.asideEnd) {
                frame.aside++;
                openFrame(frame.work, frame.aside - 1);
            } else if (!frame.hasBegun) {
                frame.hasBegun = true;
                allBodies++;
            } else if (frame.stepsBehind < bodies.sizeOf(frame.body)) {
                doNextStep(frame);
            } else if (frame.awaitsAfters) {
                frame.awaitsAfters = false;
                frame.aside = frame.work.effective.afters;
                frame.asideEnd = frame.work.effective.size;
            } else {
                closeFrame(frame);
            }
        }

        private void closeFrame(Frame frame) {
            open--;
            if (open == frame.work.openBelow) {
                atWork--;
            }
            if (frame.work.effective.isAside(frame.place)) {
                return;
            }
            Frame waiting = innermost();
            if (waiting != null) {
                waiting.sum += frame.sum;
            } else {
                given = frame.sum;
            }
        }

        private void doNextStep(Frame frame) {
            if (stepsInCall == MOST_STEPS_IN_CALL) {
                error = DEEP;
                return;
            }
            stepsInCall++;
            allSteps++;
            int op = bodies.opOf(frame.body, frame.stepsBehind);
            int a = bodies.operandOf(frame.body, frame.stepsBehind);
            frame.stepsBehind++;
            switch (op) {
                case SAY: frame.sum = a; break;
                case ADD: frame.sum += a; break;
                case GET: frame.sum += intOrError(instances.read(frame.firstArgument(), a)); break;
                case PUT: intOrError(instances.write(frame.firstArgument(), a, frame.sum)); break;
                case NEXT: openNext(frame); break;
                case HASNEXT: frame.sum = frame.work.effective.nextPlace(frame.place) >= 0 ? 1 : 0; break;
                case NOTE: notes.take(a); break;
                case CALL: wantFrom(frame, a); break;
                case BECOME: changeClass(frame, a); break;
                case SWAP: swap(frame); break;
                default: break;
            }
        }

        /** The int that a SLOT answered; if it was an ERROR, that one ends all. */
        private int intOrError(long answer) {
            if (isError(answer)) {
                error = (int) (answer - ERROR);
                return 0;
            }
            return (int) answer;
        }

        private void openNext(Frame frame) {
            int place = frame.work.effective.nextPlace(frame.place);
            if (place < 0) {
                error = LAST;
            } else {
                openFrame(frame.work, place);
            }
        }

        private void wantFrom(Frame frame, int g) {
            int first = frame.firstArgument();
            want(g, first, frame.work.parameters == 2 ? frame.secondArgument() : first);
        }

        private void changeClass(Frame frame, int c) {
            if (classes.isThere(c)) {
                instances.changeClass(frame.firstArgument(), c);
            } else {
                error = NONE;
            }
        }

        private void swap(Frame frame) {
            if (frame.work.parameters == 2) {
                frame.isSwapped = !frame.isSwapped;
            }
        }
    }
}
