/** Promise 19 (count), and with it which EFFECTIVE METHODS are found, kept and forgotten. */
public final class CountsTest {
    private static final Due due = new Due();

    public static void main(String[] args) {
        refused();
        things();
        work();
        foundOnce();
        keptAlsoWhereTheCallFails();
        keptByClasses();
        forgottenByClasses();
        forgottenByGenerics();
        forgottenByMethods();
        refusalsForgetNothing();
        slotsAndStepsForgetNothing();
        foundAnewForInstances();
        foundAnewForInstancesOfTwo();
        keptBesideInstances();
        due.end();
    }

    /** Classes 0, 1, 2 in a chain with INSTANCES 0, 1, 2; GENERICS 0 (1 PARAMETER) and 1 (2) for all. */
    private static ClassDesk chain() {
        ClassDesk desk = new ClassDesk();
        desk.define(1, 0, -1, -1);
        desk.define(2, 1, -1, -1);
        desk.make(0);
        desk.make(1);
        desk.make(2);
        desk.generic(0, 1);
        desk.generic(1, 2);
        desk.method(0, 0, 0, 0, 0);
        desk.method(1, 0, 0, 0, 0);
        return desk;
    }

    private static void foundAndKept(String when, ClassDesk desk, int found, int kept) {
        due.is("found, " + when, desk.count(5), found);
        due.is("kept, " + when, desk.count(6), kept);
    }

    private static void refused() {
        ClassDesk desk = new ClassDesk();
        int[] others = {Integer.MIN_VALUE, -1, 10, 11, Integer.MAX_VALUE};
        for (int what : others) {
            due.is("count(" + what + ")", desk.count(what), ClassDesk.REFUSED);
        }
    }

    private static void things() {
        ClassDesk desk = chain();
        due.is("classes", desk.count(0), 3);
        desk.define(2, 0, -1, -1);
        due.is("classes", desk.count(0), 3);
        due.is("INSTANCES", desk.count(1), 3);
        due.is("METHODS", desk.count(2), 2);
        desk.remove(0);
        due.is("METHODS", desk.count(2), 1);
        desk.remove(0);
        due.is("METHODS", desk.count(2), 1);
        desk.generic(1, 1);
        due.is("METHODS", desk.count(2), 0);
    }

    private static void work() {
        ClassDesk desk = chain();
        desk.step(0, 6, 1);
        desk.step(0, 1, 2);
        desk.call(0, 0, 0);
        desk.call(0, 1, 0);
        due.is("NOTED", desk.count(3), 2);
        due.is("BODIES", desk.count(4), 2);
        due.is("calls", desk.count(8), 2);
        due.is("steps", desk.count(9), 4);
        desk.call(0, 9, 0);
        desk.call(3, 0, 0);
        due.is("BODIES", desk.count(4), 2);
        due.is("calls", desk.count(8), 2);
        due.is("nothing was found for what is not there", desk.count(5), 2);
        desk.step(0, 4, 0);
        desk.call(0, 0, 0);
        due.is("NOTED", desk.count(3), 3);
        due.is("BODIES", desk.count(4), 3);
        due.is("calls", desk.count(8), 2);
        due.is("steps", desk.count(9), 7);
        desk.clear(0);
        desk.call(0, 0, 0);
        due.is("BODIES without steps", desk.count(4), 4);
        due.is("steps", desk.count(9), 7);
        due.is("calls", desk.count(8), 3);
    }

    private static void foundOnce() {
        ClassDesk desk = chain();
        foundAndKept("at first", desk, 0, 0);
        desk.call(0, 0, 0);
        foundAndKept("one call", desk, 1, 1);
        desk.call(0, 0, 0);
        foundAndKept("again", desk, 1, 1);
        desk.call(0, 1, 0);
        foundAndKept("another class", desk, 2, 2);
        desk.make(1);
        desk.call(0, 3, 0);
        foundAndKept("another of that class", desk, 2, 2);
        desk.become(3, 0);
        desk.call(0, 3, 0);
        foundAndKept("in another class", desk, 2, 2);
        desk.step(0, 7, 1);
        desk.method(1, 0, 0, 0, 1);
        desk.call(0, 1, 0);
        foundAndKept("a CALL", desk, 3, 3);
        desk.call(1, 1, 1);
        foundAndKept("the same from call()", desk, 3, 3);
    }

    private static void keptAlsoWhereTheCallFails() {
        ClassDesk desk = chain();
        desk.generic(2, 1);
        desk.call(2, 0, 0);
        foundAndKept("INAPPLICABLE", desk, 1, 1);
        desk.call(2, 0, 0);
        foundAndKept("INAPPLICABLE again", desk, 1, 1);
        desk.method(2, 1, 0, 0, 0);
        desk.call(2, 0, 0);
        desk.call(2, 0, 0);
        foundAndKept("ALONE", desk, 2, 1);
        desk.step(0, 4, 0);
        desk.call(0, 0, 0);
        desk.call(0, 0, 0);
        foundAndKept("LAST", desk, 3, 2);
    }

    private static void keptByClasses() {
        ClassDesk desk = chain();
        for (int x = 0; x < 3; x++) {
            for (int y = 0; y < 3; y++) {
                desk.call(1, x, y);
            }
        }
        foundAndKept("nine pairs", desk, 9, 9);
        for (int x = 0; x < 3; x++) {
            for (int y = 0; y < 3; y++) {
                desk.call(1, x, y);
                desk.call(0, x, y);
            }
        }
        foundAndKept("and three single ones", desk, 12, 12);
    }

    private static void forgottenByClasses() {
        ClassDesk desk = chain();
        desk.call(0, 0, 0);
        desk.call(1, 0, 0);
        desk.define(5, 0, -1, -1);
        foundAndKept("a new class", desk, 2, 0);
        desk.call(0, 0, 0);
        foundAndKept("found anew", desk, 3, 1);
        desk.define(5, 0, -1, -1);
        foundAndKept("the same class anew", desk, 3, 0);
    }

    private static void forgottenByGenerics() {
        ClassDesk desk = chain();
        desk.call(0, 0, 0);
        desk.call(0, 1, 0);
        desk.call(1, 0, 0);
        desk.generic(0, 1);
        foundAndKept("those of GENERIC 0", desk, 3, 1);
        desk.generic(3, 1);
        foundAndKept("those of GENERIC 3", desk, 3, 1);
        desk.generic(1, 1);
        foundAndKept("those of GENERIC 1", desk, 3, 0);
        desk.call(1, 0, 0);
        foundAndKept("found anew", desk, 4, 1);
    }

    private static void forgottenByMethods() {
        ClassDesk desk = chain();
        desk.call(0, 0, 0);
        desk.call(1, 0, 0);
        desk.method(0, 1, 2, 0, 0);
        foundAndKept("a METHOD of GENERIC 0", desk, 2, 1);
        desk.call(0, 0, 0);
        foundAndKept("found anew", desk, 3, 2);
        desk.method(0, 1, 2, 0, 1);
        foundAndKept("it gets another BODY", desk, 3, 1);
        desk.call(0, 0, 0);
        desk.remove(2);
        foundAndKept("it is removed", desk, 4, 1);
        desk.call(0, 0, 0);
        foundAndKept("found anew", desk, 5, 2);
        desk.remove(1);
        foundAndKept("that of GENERIC 1", desk, 5, 1);
        desk.method(0, 0, 0, 0, 1);
        foundAndKept("METHOD 0 gets another BODY", desk, 5, 0);
    }

    private static void refusalsForgetNothing() {
        ClassDesk desk = chain();
        desk.call(0, 0, 0);
        desk.call(1, 0, 0);
        desk.define(0, 1, -1, -1);
        desk.define(3, 9, -1, -1);
        desk.define(1, 2, -1, -1);
        desk.define(3, 0, 1, -1);
        desk.generic(0, 3);
        desk.method(0, 4, 0, 0, 0);
        desk.method(0, 0, 9, 0, 0);
        desk.remove(7);
        foundAndKept("all was refused", desk, 2, 2);
        int[] specializers = {16, 17, 18, 1};
        for (int k = 0; k < 14; k++) {
            desk.method(1, k % 4, specializers[k / 4], 0, 0);
        }
        due.is("METHODS", desk.count(2), 16);
        desk.call(1, 0, 0);
        int kept = desk.count(6), found = desk.count(5);
        due.is("FULL", desk.method(0, 1, 0, 0, 0), ClassDesk.FULL);
        foundAndKept("FULL", desk, found, kept);
        desk.call(0, 0, 0);
        foundAndKept("still kept", desk, found, kept);
        due.is("GENERIC 0 is kept", kept, 1);
    }

    private static void slotsAndStepsForgetNothing() {
        ClassDesk desk = chain();
        desk.call(0, 0, 0);
        desk.slot(0, 0, 1, 1);
        desk.put(0, 0, 2);
        desk.unbind(0, 0);
        desk.step(0, 1, 1);
        desk.call(0, 0, 0);
        desk.clear(0);
        desk.make(2);
        desk.become(3, 0);
        desk.call(0, 3, 0);
        foundAndKept("all is kept", desk, 1, 1);
    }

    private static void foundAnewForInstances() {
        ClassDesk desk = chain();
        desk.method(0, 0, 17, 0, 0);
        desk.call(0, 1, 0);
        foundAndKept("for that INSTANCE", desk, 1, 0);
        desk.call(0, 1, 0);
        foundAndKept("each time", desk, 2, 0);
        desk.make(1);
        desk.call(0, 3, 0);
        foundAndKept("for another of its class", desk, 3, 1);
        desk.call(0, 3, 0);
        foundAndKept("for another of its class, kept", desk, 3, 1);
        desk.call(0, 1, 0);
        foundAndKept("for that INSTANCE again", desk, 4, 1);
        desk.call(0, 3, 0);
        foundAndKept("the kept ones stay", desk, 4, 1);
    }

    private static void foundAnewForInstancesOfTwo() {
        ClassDesk desk = chain();
        desk.method(1, 1, 1, 18, 0);
        desk.call(1, 1, 2);
        desk.call(1, 1, 2);
        foundAndKept("the second PARAMETER", desk, 2, 0);
        desk.call(1, 0, 2);
        desk.call(1, 0, 2);
        foundAndKept("not APPLICABLE at the first", desk, 3, 1);
        desk.call(1, 1, 1);
        foundAndKept("not APPLICABLE at the second", desk, 4, 2);
        desk.method(1, 1, 0, 16, 0);
        desk.call(1, 1, 0);
        desk.call(1, 1, 0);
        foundAndKept("INSTANCE 0 at the second", desk, 6, 0);
        desk.method(1, 1, 16, 2, 0);
        desk.call(1, 0, 1);
        desk.call(1, 0, 1);
        foundAndKept("INSTANCE 0 at the first, and not APPLICABLE at the second", desk, 7, 1);
    }

    private static void keptBesideInstances() {
        ClassDesk desk = chain();
        desk.make(1);
        desk.step(1, 0, 5);
        desk.method(0, 3, 17, 0, 1);
        due.is("kept for class 1 first", desk.call(0, 3, 0), 0);
        due.is("then that INSTANCE", desk.call(0, 1, 0), 5);
        due.is("then the other again", desk.call(0, 3, 0), 0);
        foundAndKept("one kept", desk, 2, 1);
    }
}
