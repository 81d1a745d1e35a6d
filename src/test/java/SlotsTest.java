/** Promises 3 (slot), 4 (make), 5 (become), 6 (get), 7 (put), 8 (unbind), 16 (has) and 17 (look). */
public final class SlotsTest {
    private static final Due due = new Due();
    private static final long MISSING = ClassDesk.ERROR + ClassDesk.MISSING;
    private static final long UNBOUND = ClassDesk.ERROR + ClassDesk.UNBOUND;
    private static final int[] NO_INSTANCES = {-1, 2, 11, 12, 16, Integer.MIN_VALUE, Integer.MAX_VALUE};
    private static final int[] NO_NAMES = {-1, 6, 72, Integer.MIN_VALUE, Integer.MAX_VALUE};

    public static void main(String[] args) {
        slot();
        slotRefuses();
        makeNumbers();
        makeRefuses();
        makeGivesInitials();
        become();
        becomeTouchesTwice();
        becomeRefuses();
        get();
        put();
        unbind();
        slotCallsRefuse();
        refusedIsNotTouched();
        has();
        look();
        touched();
        definedAnewUnderInstances();
        due.end();
    }

    /** Classes 0, 1, 2 in a chain; INSTANCE 0 of class 2, INSTANCE 1 of class 1. */
    private static ClassDesk chain() {
        ClassDesk desk = new ClassDesk();
        desk.define(1, 0, -1, -1);
        desk.define(2, 1, -1, -1);
        desk.slot(1, 0, 1, 5);
        desk.slot(1, 1, 3, 7);
        desk.slot(2, 2, 2, 9);
        desk.make(2);
        desk.make(1);
        return desk;
    }

    private static void slot() {
        ClassDesk desk = new ClassDesk();
        due.is("slot(0, 0, 1, 11)", desk.slot(0, 0, 1, 11), 1);
        due.is("slot(0, 5, 2, 12)", desk.slot(0, 5, 2, 12), 1);
        due.is("slot(0, 3, 3, 13)", desk.slot(0, 3, 3, 13), 1);
        desk.make(0);
        due.is("LOCAL with INITIAL", desk.get(0, 0), 11);
        due.is("LOCAL without", desk.get(0, 5), UNBOUND);
        due.is("SHARED", desk.get(0, 3), 13);
        due.is("slot(0, 3, 3, 14)", desk.slot(0, 3, 3, 14), 1);
        due.is("SHARED anew", desk.get(0, 3), 14);
        due.is("slot(0, 0, 1, 15)", desk.slot(0, 0, 1, 15), 1);
        due.is("an INITIAL anew is none for what has its VALUE", desk.get(0, 0), 11);
        due.is("slot(0, 0, 2, 0)", desk.slot(0, 0, 2, 0), 1);
        due.is("LOCAL stays LOCAL", desk.get(0, 0), 11);
        due.is("slot(0, 0, 0, 0)", desk.slot(0, 0, 0, 0), 1);
        due.is("none", desk.get(0, 0), MISSING);
        due.is("none where none was", desk.slot(0, 1, 0, 3), 1);
        due.is("none", desk.get(0, 1), MISSING);
        due.is("extreme ints", desk.slot(0, 2, 3, Integer.MIN_VALUE), 1);
        due.is("extreme ints", desk.get(0, 2), Integer.MIN_VALUE);
    }

    private static void slotRefuses() {
        ClassDesk desk = chain();
        for (int name : NO_NAMES) {
            due.is("slot, name " + name, desk.slot(1, name, 1, 0), ClassDesk.REFUSED);
            due.is("slot, name and class", desk.slot(9, name, 1, 0), ClassDesk.REFUSED);
        }
        int[] hows = {-1, 4, Integer.MIN_VALUE, Integer.MAX_VALUE};
        for (int how : hows) {
            due.is("slot, how " + how, desk.slot(1, 0, how, 0), ClassDesk.REFUSED);
            due.is("slot, how and class", desk.slot(9, 0, how, 0), ClassDesk.REFUSED);
        }
        int[] classes = {-1, 3, 11, 12, Integer.MIN_VALUE, Integer.MAX_VALUE};
        for (int c : classes) {
            due.is("slot, class " + c, desk.slot(c, 0, 1, 0), ClassDesk.NONE);
        }
        due.is("all is as it was", desk.get(0, 0), 5);
    }

    private static void makeNumbers() {
        ClassDesk desk = new ClassDesk();
        desk.define(1, 0, -1, -1);
        for (int i = 0; i < 12; i++) {
            due.is("make", desk.make(i % 2), i);
            due.is("count(1)", desk.count(1), i + 1);
        }
        due.is("make beyond 12", desk.make(0), ClassDesk.FULL);
        due.is("NONE before FULL", desk.make(5), ClassDesk.NONE);
        due.is("count(1)", desk.count(1), 12);
        due.is("the last is there", desk.look(11, 0), 1);
    }

    private static void makeRefuses() {
        ClassDesk desk = new ClassDesk();
        int[] classes = {-1, 1, 11, 12, Integer.MIN_VALUE, Integer.MAX_VALUE};
        for (int c : classes) {
            due.is("make(" + c + ")", desk.make(c), ClassDesk.NONE);
        }
        due.is("count(1)", desk.count(1), 0);
    }

    private static void makeGivesInitials() {
        ClassDesk desk = chain();
        due.is("LAYOUT of 0", desk.look(0, 1), 1 + 4);
        due.is("VALUES of 0", desk.look(0, 2), 1);
        due.is("LAYOUT of 1", desk.look(1, 1), 1);
        due.is("VALUES of 1", desk.look(1, 2), 1);
        due.is("a LAYOUT when made is not a change", desk.count(7), 0);
        desk.put(0, 0, 6);
        due.is("VALUES are each one's own", desk.get(1, 0), 5);
    }

    private static void become() {
        ClassDesk desk = chain();
        desk.put(0, 0, 50);
        desk.put(0, 2, 51);
        due.is("become(0, 1)", desk.become(0, 1), 1);
        due.is("its class", desk.look(0, 0), 1);
        due.is("LOCAL in both keeps its VALUE", desk.get(0, 0), 50);
        due.is("LOCAL no more", desk.look(0, 2), 1);
        due.is("become(0, 2)", desk.become(0, 2), 1);
        due.is("its VALUE did not come back", desk.get(0, 2), UNBOUND);
        due.is("become(1, 2)", desk.become(1, 2), 1);
        due.is("its LAYOUT", desk.look(1, 1), 5);
        due.is("become(1, 0)", desk.become(1, 0), 1);
        due.is("no SLOTS in class 0", desk.look(1, 1), 0);
        due.is("become(1, 1)", desk.become(1, 1), 1);
        due.is("INITIAL again", desk.get(1, 0), 5);
        due.is("the same class", desk.become(1, 1), 1);
        due.is("changes of LAYOUTS", desk.count(7), 5);
    }

    private static void becomeTouchesTwice() {
        ClassDesk desk = new ClassDesk();
        desk.define(1, 0, -1, -1);
        desk.define(2, 0, -1, -1);
        desk.slot(1, 0, 1, 1);
        desk.make(1);
        desk.put(0, 0, 9);
        desk.slot(1, 0, 0, 0);
        desk.slot(2, 0, 1, 2);
        // In class 1 name 0 is LOCAL no more, so 9 is lost before class 2 gives its INITIAL.
        due.is("become(0, 2)", desk.become(0, 2), 1);
        due.is("count(7)", desk.count(7), 2);
        due.is("get(0, 0)", desk.get(0, 0), 2);
        // The first touch brings name 1 with the INITIAL of class 2, which class 1 then keeps.
        desk.slot(2, 1, 1, 3);
        desk.slot(1, 1, 1, 4);
        due.is("become(0, 1)", desk.become(0, 1), 1);
        due.is("get(0, 1)", desk.get(0, 1), 3);
        due.is("count(7)", desk.count(7), 4);
    }

    private static void becomeRefuses() {
        ClassDesk desk = chain();
        desk.slot(2, 3, 1, 1);
        for (int i : NO_INSTANCES) {
            due.is("become(" + i + ", 1)", desk.become(i, 1), ClassDesk.NONE);
        }
        int[] classes = {-1, 3, 11, 12, Integer.MIN_VALUE, Integer.MAX_VALUE};
        for (int c : classes) {
            due.is("become(0, " + c + ")", desk.become(0, c), ClassDesk.NONE);
        }
        due.is("its class", desk.look(0, 0), 2);
        due.is("not TOUCHED", desk.count(7), 0);
    }

    private static void get() {
        ClassDesk desk = chain();
        due.is("LOCAL", desk.get(0, 0), 5);
        due.is("SHARED", desk.get(0, 1), 7);
        due.is("without INITIAL", desk.get(0, 2), UNBOUND);
        due.is("missing", desk.get(0, 3), MISSING);
        due.is("missing in class 1", desk.get(1, 2), MISSING);
        desk.put(0, 0, -1);
        due.is("an int that looks like a refusal", desk.get(0, 0), -1);
        desk.put(0, 0, Integer.MAX_VALUE);
        due.is("the greatest int", desk.get(0, 0), Integer.MAX_VALUE);
        desk.slot(2, 0, 3, 8);
        due.is("the first class in the PRECEDENCE counts", desk.get(0, 0), 8);
        due.is("for those below it alone", desk.get(1, 0), 5);
    }

    private static void put() {
        ClassDesk desk = chain();
        due.is("put(0, 0, 6)", desk.put(0, 0, 6), 1);
        due.is("get(0, 0)", desk.get(0, 0), 6);
        due.is("get(1, 0)", desk.get(1, 0), 5);
        due.is("put(0, 1, 8)", desk.put(0, 1, 8), 1);
        due.is("SHARED by all", desk.get(1, 1), 8);
        due.is("SHARED is no VALUE", desk.look(0, 2), 1);
        due.is("put(0, 2, 3)", desk.put(0, 2, 3), 1);
        due.is("bound now", desk.look(0, 2), 5);
        due.is("get(0, 2)", desk.get(0, 2), 3);
        due.is("put(0, 4, 3)", desk.put(0, 4, 3), MISSING);
        due.is("put(1, 2, 3)", desk.put(1, 2, 3), MISSING);
        desk.make(1);
        due.is("the INITIAL is as it was", desk.get(2, 0), 5);
        // A SHARED int is that of the class whose direct SLOT it is.
        desk.slot(2, 1, 3, 20);
        desk.put(0, 1, 21);
        due.is("class 2", desk.get(0, 1), 21);
        due.is("class 1", desk.get(1, 1), 8);
    }

    private static void unbind() {
        ClassDesk desk = chain();
        due.is("unbind(0, 0)", desk.unbind(0, 0), 1);
        due.is("no VALUE", desk.look(0, 2), 0);
        due.is("still in the LAYOUT", desk.look(0, 1), 5);
        due.is("unbind(0, 0) again", desk.unbind(0, 0), 0);
        due.is("get(0, 0)", desk.get(0, 0), UNBOUND);
        due.is("put(0, 0, 4)", desk.put(0, 0, 4), 1);
        due.is("get(0, 0)", desk.get(0, 0), 4);
        due.is("without INITIAL", desk.unbind(0, 2), 0);
        due.is("SHARED", desk.unbind(0, 1), MISSING);
        due.is("SHARED stays", desk.get(0, 1), 7);
        due.is("missing", desk.unbind(0, 3), MISSING);
        due.is("another one's", desk.get(1, 0), 5);
    }

    private static void slotCallsRefuse() {
        ClassDesk desk = chain();
        long none = ClassDesk.ERROR + ClassDesk.NONE, refused = ClassDesk.ERROR + ClassDesk.REFUSED;
        for (int i : NO_INSTANCES) {
            due.is("get(" + i + ", 0)", desk.get(i, 0), none);
            due.is("put(" + i + ", 0, 1)", desk.put(i, 0, 1), none);
            due.is("unbind(" + i + ", 0)", desk.unbind(i, 0), none);
            due.is("get(" + i + ", 9)", desk.get(i, 9), none);
            due.is("put(" + i + ", 9, 1)", desk.put(i, 9, 1), none);
            due.is("unbind(" + i + ", 9)", desk.unbind(i, 9), none);
        }
        for (int name : NO_NAMES) {
            due.is("get(0, " + name + ")", desk.get(0, name), refused);
            due.is("put(0, " + name + ", 1)", desk.put(0, name, 1), refused);
            due.is("unbind(0, " + name + ")", desk.unbind(0, name), refused);
        }
        due.is("all is as it was", desk.get(0, 0), 5);
    }

    private static void refusedIsNotTouched() {
        ClassDesk desk = chain();
        desk.slot(2, 3, 1, 1);
        desk.get(0, 6);
        desk.put(0, -1, 0);
        desk.unbind(0, 6);
        due.is("LAYOUT", desk.look(0, 1), 5);
        due.is("count(7)", desk.count(7), 0);
        // But what is MISSING was looked for, and so TOUCHED.
        due.is("get(0, 5)", desk.get(0, 5), MISSING);
        due.is("LAYOUT", desk.look(0, 1), 13);
        desk.slot(2, 3, 0, 0);
        due.is("put(0, 3, 0)", desk.put(0, 3, 0), MISSING);
        due.is("LAYOUT", desk.look(0, 1), 5);
        desk.slot(2, 4, 2, 0);
        due.is("unbind(0, 3)", desk.unbind(0, 3), MISSING);
        due.is("LAYOUT", desk.look(0, 1), 21);
        due.is("count(7)", desk.count(7), 3);
    }

    private static void has() {
        ClassDesk desk = chain();
        due.is("has(2, 0)", desk.has(2, 0), 1);
        due.is("has(2, 1)", desk.has(2, 1), 1);
        due.is("has(2, 2)", desk.has(2, 2), 2);
        due.is("has(1, 2)", desk.has(1, 2), -1);
        due.is("has(0, 0)", desk.has(0, 0), -1);
        desk.slot(0, 0, 1, 0);
        due.is("has(0, 0)", desk.has(0, 0), 0);
        due.is("has(2, 0)", desk.has(2, 0), 1);
        desk.slot(1, 0, 0, 0);
        due.is("has(2, 0)", desk.has(2, 0), 0);
        // The order of the SUPERS decides.
        desk.define(3, 0, -1, -1);
        desk.slot(3, 1, 2, 0);
        desk.define(4, 1, 3, -1);
        due.is("has(4, 1)", desk.has(4, 1), 1);
        desk.define(4, 3, 1, -1);
        due.is("has(4, 1)", desk.has(4, 1), 3);
        for (int name : NO_NAMES) {
            due.is("has(2, " + name + ")", desk.has(2, name), ClassDesk.REFUSED);
            due.is("has(9, " + name + ")", desk.has(9, name), ClassDesk.NONE);
        }
        int[] classes = {-1, 5, 12, Integer.MIN_VALUE, Integer.MAX_VALUE};
        for (int c : classes) {
            due.is("has(" + c + ", 0)", desk.has(c, 0), ClassDesk.NONE);
        }
    }

    private static void look() {
        ClassDesk desk = chain();
        due.is("look(0, 0)", desk.look(0, 0), 2);
        due.is("look(0, 1)", desk.look(0, 1), 5);
        due.is("look(0, 2)", desk.look(0, 2), 1);
        int[] others = {-1, 3, Integer.MIN_VALUE, Integer.MAX_VALUE};
        for (int what : others) {
            due.is("look(0, " + what + ")", desk.look(0, what), ClassDesk.NONE);
        }
        for (int i : NO_INSTANCES) {
            due.is("look(" + i + ", 0)", desk.look(i, 0), ClassDesk.NONE);
        }
        desk.slot(1, 0, 3, 1);
        desk.slot(2, 5, 1, 1);
        due.is("look does not TOUCH", desk.look(0, 1), 5);
        due.is("look does not TOUCH", desk.look(0, 2), 1);
        due.is("look does not TOUCH", desk.count(7), 0);
        desk.get(0, 5);
        due.is("TOUCHED", desk.look(0, 1), 4 + 32);
        due.is("TOUCHED", desk.look(0, 2), 32);
    }

    private static void touched() {
        ClassDesk desk = chain();
        desk.put(0, 0, 6);
        // Away and back again without being TOUCHED: nothing is noticed.
        desk.slot(1, 0, 0, 0);
        desk.slot(1, 0, 1, 70);
        due.is("its VALUE stays", desk.get(0, 0), 6);
        due.is("count(7)", desk.count(7), 0);
        desk.slot(1, 0, 3, 71);
        due.is("SHARED now", desk.get(0, 0), 71);
        due.is("no VALUE", desk.look(0, 2), 0);
        desk.slot(1, 0, 1, 72);
        due.is("INITIAL, not what it was", desk.get(0, 0), 72);
        due.is("count(7)", desk.count(7), 2);
        // An unbound name that stays LOCAL gets no INITIAL.
        desk.unbind(0, 0);
        desk.slot(2, 0, 1, 73);
        due.is("still unbound", desk.get(0, 0), UNBOUND);
        // A further name comes without a VALUE if there is no INITIAL.
        desk.slot(0, 4, 2, 74);
        due.is("without", desk.get(0, 4), UNBOUND);
        due.is("count(7)", desk.count(7), 3);
        due.is("INSTANCE 1 was not TOUCHED", desk.look(1, 1), 1);
        desk.unbind(1, 4);
        due.is("INSTANCE 1 was TOUCHED by unbind", desk.look(1, 1), 17);
        desk.slot(1, 5, 1, 75);
        desk.put(1, 0, 0);
        due.is("INSTANCE 1 was TOUCHED by put", desk.look(1, 1), 49);
        due.is("count(7)", desk.count(7), 5);
    }

    private static void definedAnewUnderInstances() {
        ClassDesk desk = chain();
        desk.define(3, 0, -1, -1);
        desk.slot(3, 4, 1, 40);
        desk.put(0, 2, 22);
        desk.define(2, 3, -1, -1);
        due.is("not yet", desk.look(0, 1), 5);
        due.is("get(0, 4)", desk.get(0, 4), 40);
        due.is("get(0, 0)", desk.get(0, 0), MISSING);
        due.is("get(0, 2)", desk.get(0, 2), 22);
        due.is("LAYOUT", desk.look(0, 1), 4 + 16);
        due.is("count(7)", desk.count(7), 1);
    }
}
