import java.util.function.ToLongFunction;

/** What the tests of the document's sentences build with and look with. */
final class Desks {
    static final int PRIMARY = 0, BEFORE = 1, AFTER = 2, AROUND = 3;
    static final int SAY = 0, ADD = 1, GET = 2, PUT = 3, NEXT = 4;
    static final int HASNEXT = 5, NOTE = 6, CALL = 7, BECOME = 8, SWAP = 9;
    static final int REFUSED = ClassDesk.REFUSED, NONE = ClassDesk.NONE, FULL = ClassDesk.FULL;
    static final int CYCLE = ClassDesk.CYCLE, ORDER = ClassDesk.ORDER;
    static final long ERROR = ClassDesk.ERROR;
    static final long MISSING = ERROR + ClassDesk.MISSING, UNBOUND = ERROR + ClassDesk.UNBOUND;
    static final long INAPPLICABLE = ERROR + ClassDesk.INAPPLICABLE, ALONE = ERROR + ClassDesk.ALONE;
    static final long LAST = ERROR + ClassDesk.LAST, DEEP = ERROR + ClassDesk.DEEP;
    static final int LEAST = Integer.MIN_VALUE, MOST = Integer.MAX_VALUE;

    private Desks() {
    }

    /** One below, one above, and as far away as an int can be. */
    static int[] outside(int low, int high) {
        return new int[] {low - 1, high + 1, LEAST, MOST};
    }

    /** Classes 0 to n - 1, each below the one before, and of each the INSTANCE of its number. */
    static ClassDesk chain(int n) {
        ClassDesk desk = new ClassDesk();
        desk.make(0);
        for (int c = 1; c < n; c++) {
            desk.define(c, c - 1, -1, -1);
            desk.make(c);
        }
        return desk;
    }

    /** A BODY made of pairs op, a; what it had is gone. */
    static void body(ClassDesk desk, int b, int... steps) {
        desk.clear(b);
        for (int k = 0; k < steps.length; k += 2) {
            desk.step(b, steps[k], steps[k + 1]);
        }
    }

    /** GENERIC g with n PARAMETERS and one PRIMARY for all INSTANCES, whose BODY is that of the same number. */
    static void primary(ClassDesk desk, int g, int n, int... steps) {
        desk.generic(g, n);
        body(desk, g, steps);
        desk.method(g, PRIMARY, 0, 0, g);
    }

    /** The latest n ints NOTED, the oldest first. */
    static long[] notes(ClassDesk desk, int n) {
        long[] row = new long[n];
        for (int k = 0; k < n; k++) {
            row[k] = desk.noted(n - 1 - k);
        }
        return row;
    }

    /** The whole PRECEDENCE of a class, and that nothing stands behind it. */
    static void rowIs(Due due, ClassDesk desk, int c, int... want) {
        for (int k = 0; k < want.length; k++) {
            due.is("precedence(" + c + ", " + k + ")", desk.precedence(c, k), want[k]);
        }
        due.is("precedence(" + c + ", " + want.length + ")", desk.precedence(c, want.length), NONE);
    }

    static void define(Due due, ClassDesk desk, long want, int c, int s, int t, int u) {
        due.is("define(" + c + ", " + s + ", " + t + ", " + u + ")", desk.define(c, s, t, u), want);
    }

    static void method(Due due, ClassDesk desk, long want, int g, int kind, int s, int t, int body) {
        due.is("method(" + g + ", " + kind + ", " + s + ", " + t + ", " + body + ")",
                desk.method(g, kind, s, t, body), want);
    }

    static void call(Due due, ClassDesk desk, long want, int g, int x, int y) {
        due.is("call(" + g + ", " + x + ", " + y + ")", desk.call(g, x, y), want);
    }

    static void foundAndKept(Due due, String when, ClassDesk desk, int found, int kept) {
        due.is("found, " + when, desk.count(5), found);
        due.is("kept, " + when, desk.count(6), kept);
    }

    /**
     * Something of everything: classes 0 to 3 with SLOTS, INSTANCES 0, 1 and 2 (which have not followed
     * the latest SLOT), GENERICS 0 and 1 with METHODS, BODIES, ints NOTED and EFFECTIVE METHODS kept.
     */
    static ClassDesk busy() {
        ClassDesk desk = new ClassDesk();
        desk.define(1, 0, -1, -1);
        desk.define(2, 0, -1, -1);
        desk.define(3, 1, 2, -1);
        desk.slot(0, 2, 2, 0);
        desk.slot(1, 0, 1, 5);
        desk.slot(2, 1, 3, 7);
        desk.make(0);
        desk.make(1);
        desk.make(3);
        desk.generic(0, 1);
        desk.generic(1, 2);
        body(desk, 0, NOTE, 10, SAY, 3);
        body(desk, 1, NOTE, 20, NEXT, 0, GET, 0);
        body(desk, 2, NOTE, 30);
        desk.method(0, PRIMARY, 0, 0, 0);
        desk.method(0, PRIMARY, 1, 0, 1);
        desk.method(0, BEFORE, 17, 0, 2);
        desk.method(1, PRIMARY, 0, 2, 0);
        desk.call(0, 2, 0);
        desk.call(0, 1, 0);
        desk.call(1, 0, 2);
        desk.slot(0, 3, 1, 9);
        return desk;
    }

    /** A call that is refused leaves all as it was: whatever is asked later, a twin without it answers the same. */
    static void leavesAll(Due due, String call, long want, ToLongFunction<ClassDesk> refused) {
        ClassDesk desk = busy();
        due.is(call, refused.applyAsLong(desk), want);
        due.row("all behind " + call, answersOf(desk), answersOf(busy()));
    }

    /** The answers to calls that look at everything, and at last to some that take it apart. */
    static long[] answersOf(ClassDesk desk) {
        long[] row = new long[500];
        int n = 0;
        for (int c = 0; c < 12; c++) {
            for (int k = 0; k < 5; k++) {
                row[n++] = desk.precedence(c, k);
            }
        }
        for (int c = 0; c < 4; c++) {
            for (int name = 0; name < 6; name++) {
                row[n++] = desk.has(c, name);
            }
        }
        n = lookAtAll(desk, row, n);
        for (int g = 0; g < 5; g++) {
            for (int x = 0; x < 3; x++) {
                row[n++] = desk.call(g, x, 2 - x);
            }
        }
        n = lookAtAll(desk, row, n);
        for (int i = 0; i < 3; i++) {
            for (int name = 0; name < 6; name++) {
                row[n++] = desk.get(i, name);
            }
        }
        n = lookAtAll(desk, row, n);
        return takeApart(desk, row, n);
    }

    private static int lookAtAll(ClassDesk desk, long[] row, int from) {
        int n = from;
        for (int i = 0; i < 4; i++) {
            for (int what = 0; what < 3; what++) {
                row[n++] = desk.look(i, what);
            }
        }
        for (int k = 0; k < 20; k++) {
            row[n++] = desk.noted(k);
        }
        for (int what = 0; what < 10; what++) {
            row[n++] = desk.count(what);
        }
        return n;
    }

    private static long[] takeApart(ClassDesk desk, long[] row, int from) {
        int n = from;
        for (int m = 0; m < 16; m++) {
            row[n++] = desk.remove(m);
        }
        for (int b = 0; b < 8; b++) {
            row[n++] = desk.clear(b);
        }
        for (int g = 0; g < 5; g++) {
            row[n++] = desk.method(g, PRIMARY, 0, 2, 0);
            row[n++] = desk.method(g, PRIMARY, 0, 1, 0);
        }
        for (int k = 0; k < 4; k++) {
            row[n++] = desk.make(k);
            row[n++] = desk.look(3 + k, 1);
        }
        return java.util.Arrays.copyOf(row, n);
    }
}
