/** Promises 14 (call) and 18 (noted), with what the document says of BODIES, ERRORS and EFFECTIVE METHODS. */
public final class CallsTest {
    private static final Due due = new Due();
    private static final int PRIMARY = 0, BEFORE = 1, AFTER = 2, AROUND = 3;
    private static final int SAY = 0, ADD = 1, GET = 2, PUT = 3, NEXT = 4;
    private static final int HASNEXT = 5, NOTE = 6, CALL = 7, BECOME = 8, SWAP = 9;
    private static final long NONE = ClassDesk.ERROR + ClassDesk.NONE;
    private static final long MISSING = ClassDesk.ERROR + ClassDesk.MISSING;
    private static final long UNBOUND = ClassDesk.ERROR + ClassDesk.UNBOUND;
    private static final long INAPPLICABLE = ClassDesk.ERROR + ClassDesk.INAPPLICABLE;
    private static final long ALONE = ClassDesk.ERROR + ClassDesk.ALONE;
    private static final long LAST = ClassDesk.ERROR + ClassDesk.LAST;
    private static final long DEEP = ClassDesk.ERROR + ClassDesk.DEEP;

    public static void main(String[] args) {
        callRefuses();
        sayAndAdd();
        getAndPut();
        getAndPutFail();
        orderOfAll();
        beforesAndAftersDoNotMatter();
        aroundDecides();
        aroundTwice();
        nextOfPrimaries();
        hasNext();
        last();
        inapplicableBeforeAlone();
        specificByFirstThenSecond();
        specificAlsoAtTheEndOfTheRow();
        specificByPrecedence();
        instanceBeforeClasses();
        callOtherGenerics();
        oneAfterTheOtherIsNotDeep();
        callsOfOtherShapes();
        callFails();
        swap();
        swapWithOne();
        nextHasThoseOfTheBeginning();
        become();
        becomeKeepsMethodsOfTheBeginning();
        argumentsAreNotTouched();
        definedAnew();
        twelveAtWork();
        threeHundredSteps();
        sixteenInARowTwelveDeep();
        errorsEndAll();
        noted();
        notedKeepsTwenty();
        due.end();
    }

    /** Classes 0, 1, 2, 3 in a chain with INSTANCES 0, 1, 2, 3 of them; all GENERICS with n PARAMETERS. */
    private static ClassDesk chain(int n) {
        ClassDesk desk = new ClassDesk();
        desk.make(0);
        for (int c = 1; c < 4; c++) {
            desk.define(c, c - 1, -1, -1);
            desk.make(c);
        }
        for (int g = 0; g < 5; g++) {
            desk.generic(g, n);
        }
        return desk;
    }

    /** A BODY made of pairs op, a. */
    private static void body(ClassDesk desk, int b, int... steps) {
        desk.clear(b);
        for (int k = 0; k < steps.length; k += 2) {
            due.is("step", desk.step(b, steps[k], steps[k + 1]), k / 2 + 1);
        }
    }

    /** The latest n ints NOTED, the oldest first. */
    private static long[] notes(ClassDesk desk, int n) {
        long[] row = new long[n];
        for (int k = 0; k < n; k++) {
            row[k] = desk.noted(n - 1 - k);
        }
        return row;
    }

    private static void callRefuses() {
        ClassDesk desk = new ClassDesk();
        desk.make(0);
        desk.make(0);
        due.is("without PARAMETERS", desk.call(0, 0, 0), NONE);
        desk.generic(0, 1);
        desk.generic(1, 2);
        desk.method(0, PRIMARY, 0, 0, 0);
        desk.method(1, PRIMARY, 0, 0, 0);
        int[] wrong = {Integer.MIN_VALUE, -1, 2, 11, 12, 16, Integer.MAX_VALUE};
        for (int n : wrong) {
            due.is("call(" + n + ", 0, 0)", desk.call(n, 0, 0), NONE);
            due.is("call(0, " + n + ", 0)", desk.call(0, n, 0), NONE);
            due.is("call(1, " + n + ", 0)", desk.call(1, n, 0), NONE);
            due.is("call(1, 0, " + n + ")", desk.call(1, 0, n), NONE);
            due.is("y is not looked at with 1 PARAMETER", desk.call(0, 0, n), 0);
        }
        due.is("call(5, 0, 0)", desk.call(5, 0, 0), NONE);
        due.is("call(1, 0, 1)", desk.call(1, 0, 1), 0);
    }

    private static void sayAndAdd() {
        ClassDesk desk = chain(1);
        desk.method(0, PRIMARY, 0, 0, 0);
        due.is("an empty BODY", desk.call(0, 0, 0), 0);
        body(desk, 0, ADD, 3, ADD, 4);
        due.is("X is 0 at first", desk.call(0, 0, 0), 7);
        body(desk, 0, ADD, 3, SAY, 4);
        due.is("SAY", desk.call(0, 0, 0), 4);
        body(desk, 0, SAY, Integer.MAX_VALUE, ADD, 1);
        due.is("ADD wraps", desk.call(0, 0, 0), Integer.MIN_VALUE);
        body(desk, 0, SAY, Integer.MIN_VALUE, ADD, -1);
        due.is("ADD wraps", desk.call(0, 0, 0), Integer.MAX_VALUE);
        body(desk, 0, SAY, -11);
        due.is("an int that looks like an ERROR", desk.call(0, 0, 0), -11);
        due.is("all without ERROR", desk.count(8), 6);
    }

    private static void getAndPut() {
        ClassDesk desk = chain(1);
        desk.slot(0, 0, 1, 10);
        desk.slot(0, 1, 3, 20);
        desk.slot(1, 2, 2, 0);
        desk.method(0, PRIMARY, 0, 0, 0);
        body(desk, 0, SAY, 5, GET, 0, GET, 1);
        due.is("GET adds", desk.call(0, 1, 0), 35);
        body(desk, 0, SAY, 7, PUT, 0, ADD, 1, PUT, 1, ADD, 1, PUT, 2, GET, 2);
        due.is("PUT leaves X", desk.call(0, 1, 0), 18);
        due.is("LOCAL", desk.get(1, 0), 7);
        due.is("SHARED", desk.get(0, 1), 8);
        due.is("without INITIAL", desk.get(1, 2), 9);
        due.is("another one's", desk.get(0, 0), 10);
        desk.put(1, 0, Integer.MAX_VALUE);
        body(desk, 0, SAY, 1, GET, 0);
        due.is("GET wraps", desk.call(0, 1, 0), Integer.MIN_VALUE);
    }

    private static void getAndPutFail() {
        ClassDesk desk = chain(1);
        desk.slot(1, 2, 2, 0);
        desk.method(0, PRIMARY, 0, 0, 0);
        body(desk, 0, NOTE, 1, GET, 2, NOTE, 2);
        due.is("GET where nothing is", desk.call(0, 0, 0), MISSING);
        due.is("GET without a VALUE", desk.call(0, 1, 0), UNBOUND);
        body(desk, 0, NOTE, 3, PUT, 2, NOTE, 4);
        due.is("PUT where nothing is", desk.call(0, 0, 0), MISSING);
        due.is("PUT without a VALUE", desk.call(0, 1, 0), 0);
        due.row("notes", notes(desk, 5), 1, 1, 3, 3, 4);
        due.is("count(3)", desk.count(3), 5);
    }

    private static void orderOfAll() {
        ClassDesk desk = chain(1);
        // Each METHOD notes its KIND and class; AROUNDS and PRIMARIES go on.
        body(desk, 0, NOTE, 30, NEXT, 0, NOTE, 31);
        body(desk, 1, NOTE, 32, NEXT, 0, NOTE, 33);
        body(desk, 2, NOTE, 10, SAY, 1000);
        body(desk, 3, NOTE, 11, SAY, 1000);
        body(desk, 4, NOTE, 1, SAY, 5, NEXT, 0, NOTE, 2);
        body(desk, 5, NOTE, 3, SAY, 6);
        body(desk, 6, NOTE, 20, SAY, 1000);
        body(desk, 7, NOTE, 21, SAY, 1000);
        // Defined from back to front, so that their numbers do not tell the order.
        desk.method(0, AFTER, 2, 0, 7);
        desk.method(0, AFTER, 1, 0, 6);
        desk.method(0, PRIMARY, 0, 0, 5);
        desk.method(0, PRIMARY, 2, 0, 4);
        desk.method(0, BEFORE, 0, 0, 3);
        desk.method(0, BEFORE, 2, 0, 2);
        desk.method(0, AROUND, 0, 0, 1);
        desk.method(0, AROUND, 1, 0, 0);
        due.is("what comes of it is that of the PRIMARY", desk.call(0, 2, 0), 11);
        due.row("notes", notes(desk, 12), ClassDesk.NONE, 30, 32, 10, 11, 1, 3, 2, 20, 21, 33, 31);
        due.is("eight BODIES", desk.count(4), 8);
        due.is("for class 0 only three are APPLICABLE", desk.call(0, 0, 0), 6);
        due.row("notes", notes(desk, 4), 32, 11, 3, 33);
    }

    private static void beforesAndAftersDoNotMatter() {
        ClassDesk desk = chain(1);
        body(desk, 0, SAY, 1000);
        body(desk, 1, ADD, 3);
        desk.method(0, BEFORE, 0, 0, 0);
        desk.method(0, BEFORE, 1, 0, 0);
        desk.method(0, AFTER, 0, 0, 0);
        desk.method(0, AFTER, 1, 0, 0);
        desk.method(0, PRIMARY, 0, 0, 1);
        due.is("X of the PRIMARY is 0 at first", desk.call(0, 1, 0), 3);
    }

    private static void aroundDecides() {
        ClassDesk desk = chain(1);
        body(desk, 0, NOTE, 1, SAY, 9);
        body(desk, 1, NOTE, 2, SAY, 8);
        desk.method(0, AROUND, 1, 0, 0);
        desk.method(0, AROUND, 0, 0, 1);
        desk.method(0, BEFORE, 0, 0, 1);
        desk.method(0, PRIMARY, 0, 0, 1);
        due.is("without NEXT nothing behind it is done", desk.call(0, 1, 0), 9);
        due.is("count(3)", desk.count(3), 1);
        due.is("count(4)", desk.count(4), 1);
        body(desk, 0, SAY, 1, NEXT, 0, ADD, 100);
        due.is("X grows by what the next AROUND gives", desk.call(0, 1, 0), 109);
    }

    private static void aroundTwice() {
        ClassDesk desk = chain(1);
        body(desk, 0, NEXT, 0, NEXT, 0);
        body(desk, 1, NOTE, 1);
        body(desk, 2, NOTE, 2, SAY, 4);
        body(desk, 3, NOTE, 3);
        desk.method(0, AROUND, 1, 0, 0);
        desk.method(0, AROUND, 0, 0, 0);
        desk.method(0, BEFORE, 0, 0, 1);
        desk.method(0, PRIMARY, 0, 0, 2);
        desk.method(0, AFTER, 0, 0, 3);
        due.is("all behind it each time", desk.call(0, 1, 0), 16);
        due.row("notes", notes(desk, 12), 1, 2, 3, 1, 2, 3, 1, 2, 3, 1, 2, 3);
        due.is("count(4)", desk.count(4), 1 + 2 + 12);
    }

    private static void nextOfPrimaries() {
        ClassDesk desk = chain(1);
        body(desk, 0, SAY, 1, NEXT, 0, NEXT, 0);
        body(desk, 1, SAY, 10, NEXT, 0);
        body(desk, 2, SAY, 100);
        body(desk, 3, NOTE, 7);
        desk.method(0, PRIMARY, 0, 0, 2);
        desk.method(0, PRIMARY, 1, 0, 1);
        desk.method(0, PRIMARY, 3, 0, 0);
        desk.method(0, BEFORE, 0, 0, 3);
        desk.method(0, AFTER, 0, 0, 3);
        due.is("from the most specific on", desk.call(0, 3, 0), 1 + 110 + 110);
        due.is("BEFORE and AFTER once", desk.count(3), 2);
        due.is("class 2 has no PRIMARY of its own", desk.call(0, 2, 0), 110);
        due.is("class 0", desk.call(0, 0, 0), 100);
    }

    private static void hasNext() {
        ClassDesk desk = chain(1);
        desk.slot(0, 0, 3, 0);
        desk.slot(0, 1, 3, 0);
        body(desk, 0, ADD, 50, HASNEXT, 0);
        desk.method(0, PRIMARY, 0, 0, 0);
        desk.method(0, PRIMARY, 1, 0, 0);
        due.is("a PRIMARY before another", desk.call(0, 1, 0), 1);
        due.is("the last PRIMARY", desk.call(0, 0, 0), 0);
        body(desk, 1, HASNEXT, 0, ADD, 5, PUT, 0);
        body(desk, 2, HASNEXT, 0, ADD, 7, PUT, 1);
        desk.method(0, BEFORE, 0, 0, 1);
        desk.method(0, BEFORE, 1, 0, 1);
        desk.method(0, AFTER, 0, 0, 2);
        desk.method(0, AFTER, 1, 0, 2);
        due.is("call", desk.call(0, 1, 0), 1);
        due.is("in a BEFORE there is none", desk.get(0, 0), 5);
        due.is("in an AFTER there is none", desk.get(0, 1), 7);
        desk.method(0, AROUND, 0, 0, 0);
        due.is("an AROUND before a PRIMARY", desk.call(0, 0, 0), 1);
        desk.method(0, AROUND, 1, 0, 0);
        due.is("an AROUND before another", desk.call(0, 1, 0), 1);
    }

    private static void last() {
        ClassDesk desk = chain(1);
        body(desk, 0, NOTE, 1, NEXT, 0, NOTE, 2);
        desk.method(0, PRIMARY, 0, 0, 0);
        due.is("the last PRIMARY", desk.call(0, 0, 0), LAST);
        desk.method(0, PRIMARY, 1, 0, 1);
        desk.method(0, BEFORE, 1, 0, 0);
        due.is("in a BEFORE", desk.call(0, 1, 0), LAST);
        due.is("the PRIMARY behind it was not called", desk.count(4), 2);
        desk.remove(2);
        desk.method(0, AFTER, 1, 0, 0);
        due.is("in an AFTER", desk.call(0, 1, 0), LAST);
        due.is("count(4)", desk.count(4), 4);
        due.row("notes", notes(desk, 4), ClassDesk.NONE, 1, 1, 1);
        desk.method(0, BEFORE, 1, 0, 0);
        desk.method(0, BEFORE, 0, 0, 0);
        due.is("also where another BEFORE follows", desk.call(0, 1, 0), LAST);
        due.is("count(8)", desk.count(8), 0);
    }

    private static void inapplicableBeforeAlone() {
        ClassDesk desk = chain(1);
        body(desk, 0, NOTE, 1);
        due.is("no METHODS", desk.call(0, 1, 0), INAPPLICABLE);
        desk.method(0, PRIMARY, 2, 0, 0);
        due.is("none for class 1", desk.call(0, 1, 0), INAPPLICABLE);
        desk.method(0, BEFORE, 1, 0, 0);
        due.is("a BEFORE alone", desk.call(0, 1, 0), ALONE);
        desk.method(0, AFTER, 1, 0, 0);
        desk.method(0, AROUND, 1, 0, 0);
        due.is("all but a PRIMARY", desk.call(0, 1, 0), ALONE);
        due.is("nothing was done", desk.count(4), 0);
        due.is("nothing was done", desk.count(3), 0);
        due.is("class 2 has one", desk.call(0, 2, 0), 0);
        desk.method(1, PRIMARY, 17, 0, 0);
        due.is("for INSTANCE 1 alone", desk.call(1, 2, 0), INAPPLICABLE);
        due.is("for INSTANCE 1", desk.call(1, 1, 0), 0);
    }

    private static void specificByFirstThenSecond() {
        ClassDesk desk = chain(2);
        for (int b = 0; b < 5; b++) {
            body(desk, b, SAY, 10 + b);
        }
        desk.method(0, PRIMARY, 0, 2, 0);
        due.is("(0 2)", desk.call(0, 2, 2), 10);
        desk.method(0, PRIMARY, 1, 0, 1);
        due.is("the first PARAMETER decides", desk.call(0, 2, 2), 11);
        desk.method(0, PRIMARY, 1, 1, 2);
        due.is("the second where the first is the same", desk.call(0, 2, 2), 12);
        desk.method(0, PRIMARY, 1, 16, 3);
        due.is("another INSTANCE", desk.call(0, 2, 2), 12);
        due.is("that INSTANCE", desk.call(0, 2, 0), 13);
        desk.method(0, PRIMARY, 18, 0, 4);
        due.is("an INSTANCE at the first", desk.call(0, 2, 2), 14);
        due.is("not for others", desk.call(0, 3, 2), 12);
        due.is("both must fit", desk.call(0, 0, 1), INAPPLICABLE);
        desk.method(1, PRIMARY, 17, 2, 0);
        due.is("the INSTANCE fits, the second does not", desk.call(1, 1, 1), INAPPLICABLE);
    }

    private static void specificAlsoAtTheEndOfTheRow() {
        ClassDesk desk = new ClassDesk();
        for (int c = 1; c < 12; c++) {
            desk.define(c, c - 1, -1, -1);
        }
        desk.make(11);
        desk.generic(0, 2);
        body(desk, 0, SAY, 1, NEXT, 0);
        body(desk, 1, SAY, 10);
        // The first PARAMETER decides, however far back the second stands.
        desk.method(0, PRIMARY, 11, 0, 0);
        desk.method(0, PRIMARY, 10, 16, 1);
        due.is("call", desk.call(0, 0, 0), 11);
        desk.generic(0, 2);
        desk.method(0, PRIMARY, 10, 16, 1);
        desk.method(0, PRIMARY, 11, 0, 0);
        due.is("call", desk.call(0, 0, 0), 11);
    }

    private static void specificByPrecedence() {
        ClassDesk desk = new ClassDesk();
        desk.define(1, 0, -1, -1);
        desk.define(2, 0, -1, -1);
        desk.define(3, 1, 2, -1);
        desk.define(4, 2, 1, -1);
        desk.make(3);
        desk.make(4);
        desk.generic(0, 1);
        body(desk, 1, SAY, 1);
        body(desk, 2, SAY, 2);
        desk.method(0, PRIMARY, 1, 0, 1);
        desk.method(0, PRIMARY, 2, 0, 2);
        due.is("class 3", desk.call(0, 0, 0), 1);
        due.is("class 4", desk.call(0, 1, 0), 2);
        desk.define(3, 2, 1, -1);
        due.is("class 3 anew", desk.call(0, 0, 0), 2);
    }

    private static void instanceBeforeClasses() {
        ClassDesk desk = chain(1);
        body(desk, 0, SAY, 1, NEXT, 0);
        body(desk, 1, SAY, 10, NEXT, 0);
        body(desk, 2, SAY, 100);
        desk.method(0, PRIMARY, 0, 0, 2);
        desk.method(0, PRIMARY, 3, 0, 1);
        desk.method(0, PRIMARY, 19, 0, 0);
        due.is("the INSTANCE, its class, class 0", desk.call(0, 3, 0), 111);
        desk.make(3);
        due.is("another of its class", desk.call(0, 4, 0), 110);
        desk.become(3, 1);
        due.is("it stays that INSTANCE in another class", desk.call(0, 3, 0), 101);
        desk.method(1, PRIMARY, 19, 0, 0);
        desk.method(1, PRIMARY, 1, 0, 2);
        due.is("also where it was defined first", desk.call(1, 3, 0), 101);
    }

    private static void callOtherGenerics() {
        ClassDesk desk = chain(1);
        desk.generic(1, 2);
        desk.slot(0, 0, 1, 0);
        for (int i = 0; i < 4; i++) {
            desk.put(i, 0, 1 << i);
        }
        body(desk, 0, SAY, 100, CALL, 1);
        body(desk, 1, GET, 0, SWAP, 0, GET, 0, SWAP, 0, CALL, 2);
        body(desk, 2, SAY, 16, GET, 0);
        desk.method(0, PRIMARY, 0, 0, 0);
        desk.method(1, PRIMARY, 0, 0, 1);
        desk.method(2, PRIMARY, 0, 0, 2);
        due.is("the second is the first if there is only one", desk.call(0, 1, 2), 100 + 2 + 2 + 16 + 2);
        due.is("for two if it has two", desk.call(1, 1, 2), 2 + 4 + 16 + 2);
        body(desk, 2, CALL, 3);
        desk.generic(3, 2);
        desk.method(3, PRIMARY, 0, 0, 3);
        body(desk, 3, GET, 0, SWAP, 0, GET, 0);
        due.is("behind one with 1 PARAMETER the second is gone", desk.call(1, 1, 2), 2 + 4 + 2 + 2);
        body(desk, 2, SAY, 1, CALL, 3, CALL, 3);
        due.is("X grows each time", desk.call(2, 3, 0), 1 + 16 + 16);
    }

    private static void oneAfterTheOtherIsNotDeep() {
        ClassDesk desk = chain(1);
        body(desk, 0, CALL, 1, CALL, 1, CALL, 1, CALL, 1, CALL, 1, CALL, 1, CALL, 1, CALL, 1);
        body(desk, 1, CALL, 2, CALL, 2, CALL, 2, CALL, 2, CALL, 2, CALL, 2, CALL, 2, CALL, 2);
        body(desk, 2, ADD, 1);
        for (int g = 0; g < 3; g++) {
            desk.method(g, PRIMARY, 0, 0, g);
        }
        due.is("64 at three deep", desk.call(0, 0, 0), 64);
        desk.method(2, AROUND, 0, 0, 3);
        body(desk, 3, NEXT, 0);
        due.is("64 at three deep with an AROUND", desk.call(0, 0, 0), 64);
    }

    /** What one call() left behind in its open BODIES must not be seen by another of another shape. */
    private static void callsOfOtherShapes() {
        ClassDesk desk = chain(2);
        desk.slot(0, 0, 1, 0);
        for (int i = 0; i < 4; i++) {
            desk.put(i, 0, 1 << i);
        }
        body(desk, 0, NEXT, 0, GET, 0);
        body(desk, 1, GET, 0);
        body(desk, 2, SWAP, 0, CALL, 0);
        desk.method(0, AROUND, 0, 0, 0);
        desk.method(0, PRIMARY, 0, 0, 1);
        desk.method(1, PRIMARY, 0, 0, 2);
        for (int round = 0; round < 2; round++) {
            due.is("wide", desk.call(0, 1, 2), 4);
            due.is("deep", desk.call(1, 1, 2), 8);
            due.is("wide", desk.call(0, 3, 2), 16);
            due.is("deep", desk.call(1, 3, 0), 2);
        }
    }

    private static void callFails() {
        ClassDesk desk = new ClassDesk();
        desk.make(0);
        desk.generic(0, 1);
        desk.method(0, PRIMARY, 0, 0, 0);
        body(desk, 0, CALL, 3);
        due.is("CALL of one without PARAMETERS", desk.call(0, 0, 0), NONE);
        due.is("nothing was found for it", desk.count(5), 1);
        desk.generic(3, 2);
        due.is("CALL of one without METHODS", desk.call(0, 0, 0), INAPPLICABLE);
        desk.method(3, AFTER, 0, 0, 1);
        due.is("CALL of one without a PRIMARY", desk.call(0, 0, 0), ALONE);
        desk.method(3, PRIMARY, 0, 0, 1);
        due.is("CALL", desk.call(0, 0, 0), 0);
        due.is("count(8)", desk.count(8), 1);
    }

    private static void swap() {
        ClassDesk desk = chain(2);
        desk.slot(0, 0, 1, 0);
        desk.put(1, 0, 10);
        desk.put(2, 0, 20);
        desk.method(0, PRIMARY, 0, 0, 0);
        body(desk, 0, SWAP, 0, GET, 0);
        due.is("GET of the other", desk.call(0, 1, 2), 20);
        body(desk, 0, SWAP, 0, SWAP, 0, GET, 0);
        due.is("SWAP twice", desk.call(0, 1, 2), 10);
        body(desk, 0, SWAP, 0, SAY, 5, PUT, 0);
        due.is("PUT to the other", desk.call(0, 1, 2), 5);
        due.is("get(2, 0)", desk.get(2, 0), 5);
        due.is("get(1, 0)", desk.get(1, 0), 10);
        body(desk, 0, SWAP, 0, BECOME, 3);
        due.is("BECOME of the other", desk.call(0, 1, 2), 0);
        due.is("look(2, 0)", desk.look(2, 0), 3);
        due.is("look(1, 0)", desk.look(1, 0), 1);
        desk.method(1, PRIMARY, 0, 0, 1);
        body(desk, 1, GET, 0);
        body(desk, 0, SWAP, 0, CALL, 1);
        due.is("CALL with the arguments as they are then", desk.call(0, 1, 2), 5);
        body(desk, 1, SWAP, 0, GET, 0);
        due.is("CALL with the second as it is then", desk.call(0, 1, 2), 10);
        body(desk, 0, CALL, 1);
        due.is("CALL without SWAP", desk.call(0, 1, 2), 5);
        body(desk, 1, GET, 0);
        desk.generic(2, 1);
        desk.method(2, PRIMARY, 0, 0, 1);
        body(desk, 0, SWAP, 0, CALL, 2);
        due.is("CALL with the first as it is then", desk.call(0, 1, 2), 5);
    }

    private static void swapWithOne() {
        ClassDesk desk = chain(1);
        desk.slot(0, 0, 1, 0);
        desk.put(1, 0, 10);
        desk.put(2, 0, 20);
        desk.method(0, PRIMARY, 0, 0, 0);
        body(desk, 0, SWAP, 0, GET, 0);
        due.is("there is no other", desk.call(0, 1, 2), 10);
        desk.generic(1, 2);
        desk.method(1, PRIMARY, 0, 0, 1);
        body(desk, 1, CALL, 0);
        due.is("nor one of an outer GENERIC", desk.call(1, 1, 2), 10);
    }

    private static void nextHasThoseOfTheBeginning() {
        ClassDesk desk = chain(2);
        desk.slot(0, 0, 1, 0);
        desk.put(1, 0, 10);
        desk.put(2, 0, 20);
        body(desk, 0, SWAP, 0, NEXT, 0);
        body(desk, 1, GET, 0, SWAP, 0);
        desk.method(0, PRIMARY, 0, 0, 1);
        desk.method(0, PRIMARY, 1, 0, 0);
        due.is("a PRIMARY", desk.call(0, 1, 2), 10);
        desk.method(0, AROUND, 0, 0, 0);
        due.is("an AROUND", desk.call(0, 1, 2), 10);
        body(desk, 0, SWAP, 0, NEXT, 0, GET, 0);
        due.is("SWAP of the next BODY is not this one's", desk.call(0, 1, 2), 10 + 20 + 20);
        body(desk, 2, SWAP, 0);
        desk.method(0, BEFORE, 0, 0, 2);
        due.is("nor is that of a BEFORE", desk.call(0, 1, 2), 50);
    }

    private static void become() {
        ClassDesk desk = chain(1);
        desk.slot(1, 0, 1, 5);
        desk.slot(2, 1, 1, 6);
        desk.method(0, PRIMARY, 0, 0, 0);
        body(desk, 0, SAY, 3, BECOME, 2, GET, 1, GET, 0);
        due.is("BECOME leaves X", desk.call(0, 0, 0), 14);
        due.is("look(0, 0)", desk.look(0, 0), 2);
        due.is("look(0, 1)", desk.look(0, 1), 3);
        due.is("count(7)", desk.count(7), 1);
        body(desk, 0, BECOME, 9, NOTE, 1);
        desk.slot(2, 2, 1, 1);
        due.is("BECOME of a class that is not there", desk.call(0, 0, 0), NONE);
        due.is("look(0, 0)", desk.look(0, 0), 2);
        due.is("not TOUCHED", desk.look(0, 1), 3);
        due.is("count(3)", desk.count(3), 0);
        body(desk, 0, BECOME, 0);
        due.is("BECOME", desk.call(0, 0, 0), 0);
        due.is("TOUCHED before and behind", desk.count(7), 3);
    }

    private static void becomeKeepsMethodsOfTheBeginning() {
        ClassDesk desk = chain(1);
        body(desk, 0, BECOME, 0, NEXT, 0);
        body(desk, 1, BECOME, 0);
        body(desk, 2, NOTE, 2, SAY, 7);
        body(desk, 3, NOTE, 3, CALL, 1);
        desk.method(0, AROUND, 3, 0, 0);
        desk.method(0, BEFORE, 3, 0, 1);
        desk.method(0, PRIMARY, 3, 0, 2);
        desk.method(0, AFTER, 3, 0, 3);
        desk.method(1, PRIMARY, 3, 0, 2);
        due.is("CALL in the AFTER sees the class of then", desk.call(0, 3, 0), INAPPLICABLE);
        due.row("notes", notes(desk, 2), 2, 3);
        body(desk, 3, NOTE, 3);
        due.is("its class is another now", desk.call(0, 3, 0), INAPPLICABLE);
        desk.become(3, 3);
        due.is("with the METHODS as they were", desk.call(0, 3, 0), 7);
        due.is("look(3, 0)", desk.look(3, 0), 0);
    }

    private static void argumentsAreNotTouched() {
        ClassDesk desk = chain(2);
        desk.slot(0, 0, 1, 1);
        desk.method(0, PRIMARY, 0, 0, 0);
        body(desk, 0, NOTE, 1, SWAP, 0, HASNEXT, 0);
        due.is("call", desk.call(0, 1, 2), 0);
        due.is("look(1, 1)", desk.look(1, 1), 0);
        due.is("look(2, 1)", desk.look(2, 1), 0);
        due.is("count(7)", desk.count(7), 0);
        body(desk, 0, GET, 0);
        due.is("call", desk.call(0, 1, 2), 1);
        due.is("look(1, 1)", desk.look(1, 1), 1);
        due.is("look(2, 1)", desk.look(2, 1), 0);
        body(desk, 0, SWAP, 0, PUT, 0);
        due.is("call", desk.call(0, 1, 2), 0);
        due.is("look(2, 1)", desk.look(2, 1), 1);
        due.is("count(7)", desk.count(7), 2);
        body(desk, 0, GET, 5);
        desk.slot(0, 1, 2, 0);
        due.is("MISSING", desk.call(0, 3, 2), MISSING);
        due.is("TOUCHED also where it is MISSING", desk.look(3, 1), 3);
    }

    private static void definedAnew() {
        ClassDesk desk = chain(1);
        body(desk, 0, SAY, 1);
        body(desk, 1, SAY, 2);
        desk.method(0, PRIMARY, 0, 0, 0);
        desk.method(0, PRIMARY, 1, 0, 1);
        due.is("call", desk.call(0, 3, 0), 2);
        desk.define(2, 0, -1, -1);
        due.is("class 3 is below 1 no more", desk.call(0, 3, 0), 1);
        desk.define(3, 1, -1, -1);
        due.is("class 3 is below 1 again", desk.call(0, 3, 0), 2);
    }

    private static void twelveAtWork() {
        ClassDesk desk = chain(1);
        desk.slot(0, 0, 1, 0);
        desk.method(0, PRIMARY, 0, 0, 0);
        body(desk, 0, GET, 0, ADD, 1, PUT, 0, CALL, 0);
        due.is("without end", desk.call(0, 0, 0), DEEP);
        due.is("twelve", desk.get(0, 0), 12);
        due.is("the step that fails counts", desk.count(9), 48);
        due.is("count(4)", desk.count(4), 12);
        sixDeepAndOneBeside();
        twelveAndNoMore();
    }

    private static void sixDeepAndOneBeside() {
        ClassDesk desk = new ClassDesk();
        desk.make(0);
        desk.generic(0, 1);
        desk.method(0, PRIMARY, 0, 0, 0);
        for (int c = 1; c < 6; c++) {
            desk.define(c, 0, -1, -1);
            desk.method(0, PRIMARY, c, 0, c);
        }
        for (int c = 0; c < 4; c++) {
            body(desk, c, BECOME, c + 1, CALL, 0, ADD, 1);
        }
        body(desk, 4, BECOME, 5, CALL, 0, CALL, 0, ADD, 1);
        body(desk, 5, SAY, 1);
        due.is("what each gives is added below it", desk.call(0, 0, 0), 4 + 1 + 2);
        due.is("count(4)", desk.count(4), 7);
    }

    /** GENERICS 0 to 3 CALL on in a ring; the third time the INSTANCE is of class 2, where 3 ends. */
    private static void twelveAndNoMore() {
        ClassDesk desk = new ClassDesk();
        desk.define(1, 0, -1, -1);
        desk.define(2, 0, -1, -1);
        desk.make(0);
        body(desk, 0, CALL, 1, ADD, 1);
        body(desk, 1, CALL, 2, ADD, 1);
        body(desk, 2, CALL, 3, ADD, 1);
        body(desk, 3, BECOME, 1, CALL, 0, ADD, 1);
        body(desk, 4, BECOME, 2, CALL, 0, ADD, 1);
        body(desk, 5, SAY, 1);
        for (int g = 0; g < 4; g++) {
            desk.generic(g, 1);
            desk.method(g, PRIMARY, 0, 0, g);
        }
        desk.method(3, PRIMARY, 1, 0, 4);
        desk.method(3, PRIMARY, 2, 0, 5);
        due.is("twelve are fine", desk.call(0, 0, 0), 12);
        desk.become(0, 0);
        body(desk, 5, CALL, 4);
        due.is("one without PARAMETERS would not begin", desk.call(0, 0, 0), NONE);
        desk.become(0, 0);
        desk.generic(4, 1);
        int found = desk.count(5);
        due.is("thirteen are not", desk.call(0, 0, 0), DEEP);
        due.is("nothing is found for the thirteenth", desk.count(5), found);
        desk.become(0, 0);
        body(desk, 5, NEXT, 0);
        due.is("NEXT begins no GENERIC, the CALL behind it would", desk.call(0, 0, 0), DEEP);
        due.is("the BODY of NEXT was at work", desk.look(0, 0), 1);
    }

    private static void threeHundredSteps() {
        ClassDesk desk = chain(1);
        desk.slot(0, 0, 1, 0);
        // 6 * (1 + 7 * (1 + 6)) = 300
        body(desk, 0, NEXT, 0, NEXT, 0, NEXT, 0, NEXT, 0, NEXT, 0, NEXT, 0);
        body(desk, 1, NEXT, 0, NEXT, 0, NEXT, 0, NEXT, 0, NEXT, 0, NEXT, 0, NEXT, 0);
        body(desk, 2, ADD, 1, ADD, 1, ADD, 1, ADD, 1, ADD, 1, ADD, 1);
        desk.method(0, AROUND, 1, 0, 0);
        desk.method(0, AROUND, 0, 0, 1);
        desk.method(0, PRIMARY, 0, 0, 2);
        due.is("300 steps are fine", desk.call(0, 1, 0), 6 * 7 * 6);
        due.is("count(9)", desk.count(9), 300);
        due.is("each call() has 300", desk.call(0, 1, 0), 252);
        due.is("count(9)", desk.count(9), 600);
        desk.step(0, NOTE, 1);
        due.is("301 are not", desk.call(0, 1, 0), DEEP);
        due.is("the step that was not done does not count", desk.count(9), 900);
        due.is("nor was it done", desk.count(3), 0);
        body(desk, 0, NEXT, 0, NEXT, 0, NEXT, 0, NEXT, 0, NEXT, 0, NEXT, 0);
        desk.method(0, AFTER, 1, 0, 3);
        due.is("BODIES without steps do not count", desk.call(0, 1, 0), 252);
        body(desk, 3, NOTE, 1);
        due.is("steps of AFTERS count", desk.call(0, 1, 0), DEEP);
    }

    private static void sixteenInARowTwelveDeep() {
        ClassDesk desk = new ClassDesk();
        for (int c = 1; c < 12; c++) {
            desk.define(c, c - 1, -1, -1);
        }
        desk.make(11);
        desk.generic(0, 2);
        body(desk, 0, NEXT, 0);
        body(desk, 1, CALL, 0);
        for (int k = 0; k < 15; k++) {
            due.is("method", desk.method(0, k < 8 ? AROUND : PRIMARY, 11 - k % 8, 11 - k / 8, 0), k);
        }
        due.is("method", desk.method(0, PRIMARY, 0, 0, 1), 15);
        due.is("192 BODIES are open at once", desk.call(0, 0, 0), DEEP);
        due.is("count(4)", desk.count(4), 192);
        due.is("count(9)", desk.count(9), 192);
        desk.clear(1);
        due.is("call", desk.call(0, 0, 0), 0);
        due.is("count(4)", desk.count(4), 208);
    }

    private static void errorsEndAll() {
        ClassDesk desk = chain(1);
        desk.slot(0, 0, 1, 0);
        body(desk, 0, NOTE, 1, NEXT, 0, NOTE, 9);
        body(desk, 1, NOTE, 2, SAY, 4, PUT, 0, CALL, 1, NOTE, 9);
        body(desk, 2, NOTE, 3, BECOME, 2, GET, 5);
        body(desk, 3, NOTE, 9);
        desk.method(0, AROUND, 0, 0, 0);
        desk.method(0, PRIMARY, 0, 0, 1);
        desk.method(0, AFTER, 0, 0, 3);
        desk.method(1, PRIMARY, 0, 0, 2);
        desk.method(1, AFTER, 0, 0, 3);
        due.is("call", desk.call(0, 0, 0), MISSING);
        due.row("what was done stays", notes(desk, 4), ClassDesk.NONE, 1, 2, 3);
        due.is("what was done stays", desk.get(0, 0), 4);
        due.is("what was done stays", desk.look(0, 0), 2);
        due.is("count(8)", desk.count(8), 0);
        desk.slot(0, 5, 1, 8);
        due.is("the next call begins anew", desk.call(0, 0, 0), 12);
        due.is("count(8)", desk.count(8), 1);
    }

    private static void noted() {
        ClassDesk desk = chain(1);
        desk.method(0, PRIMARY, 0, 0, 0);
        body(desk, 0, NOTE, 5, NOTE, -2, NOTE, Integer.MIN_VALUE);
        due.is("noted(0) before", desk.noted(0), ClassDesk.NONE);
        desk.call(0, 0, 0);
        due.is("noted(0)", desk.noted(0), Integer.MIN_VALUE);
        due.is("noted(1)", desk.noted(1), -2);
        due.is("noted(2)", desk.noted(2), 5);
        int[] wrong = {Integer.MIN_VALUE, -1, 3, 19, 20, Integer.MAX_VALUE};
        for (int k : wrong) {
            due.is("noted(" + k + ")", desk.noted(k), ClassDesk.NONE);
        }
        body(desk, 0, SAY, 7, NOTE, 3);
        due.is("NOTE leaves X", desk.call(0, 0, 0), 7);
        due.is("a, not X", desk.noted(0), 3);
    }

    private static void notedKeepsTwenty() {
        ClassDesk desk = chain(1);
        desk.method(0, PRIMARY, 0, 0, 0);
        for (int n = 1; n <= 45; n++) {
            body(desk, 0, NOTE, 100 + n);
            desk.call(0, 0, 0);
            due.is("count(3)", desk.count(3), n);
            due.is("the latest", desk.noted(0), 100 + n);
            due.is("the twentieth", desk.noted(19), n >= 20 ? 100 + n - 19 : ClassDesk.NONE);
            due.is("the twenty-first", desk.noted(20), ClassDesk.NONE);
        }
        for (int k = 0; k < 20; k++) {
            due.is("noted(" + k + ")", desk.noted(k), 145 - k);
        }
    }
}
