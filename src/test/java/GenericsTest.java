/** Promises 9 (generic), 10 (method), 11 (remove), 12 (step) and 13 (clear). */
public final class GenericsTest {
    private static final Due due = new Due();
    private static final int[] FAR = {Integer.MIN_VALUE, -1, Integer.MAX_VALUE};

    public static void main(String[] args) {
        generic();
        genericRefuses();
        methodNumbers();
        methodOfTheSame();
        methodRefuses();
        methodRefusesWhatIsNotThere();
        methodWithoutParameters();
        methodWithOneParameter();
        methodFull();
        remove();
        step();
        stepRefuses();
        clear();
        due.end();
    }

    /** Classes 0, 1, 2 in a chain; INSTANCES 0, 1, 2 of them; GENERIC 0 with 1 PARAMETER, 1 with 2. */
    private static ClassDesk chain() {
        ClassDesk desk = new ClassDesk();
        desk.define(1, 0, -1, -1);
        desk.define(2, 1, -1, -1);
        desk.make(0);
        desk.make(1);
        desk.make(2);
        desk.generic(0, 1);
        desk.generic(1, 2);
        for (int b = 0; b < 8; b++) {
            desk.step(b, 0, 100 + b);
        }
        return desk;
    }

    private static void method(ClassDesk desk, long want, int g, int kind, int s, int t, int body) {
        due.is("method(" + g + ", " + kind + ", " + s + ", " + t + ", " + body + ")",
                desk.method(g, kind, s, t, body), want);
    }

    private static void generic() {
        ClassDesk desk = new ClassDesk();
        for (int g = 0; g < 5; g++) {
            due.is("generic(" + g + ", 2)", desk.generic(g, 2), 0);
        }
        desk.make(0);
        due.is("generic(0, 1) without METHODS", desk.generic(0, 1), 0);
        desk.method(0, 0, 0, 0, 0);
        desk.method(0, 1, 0, 0, 0);
        desk.method(1, 0, 0, 0, 0);
        desk.method(0, 2, 0, 0, 0);
        due.is("count(2)", desk.count(2), 4);
        due.is("generic(0, 2) had three METHODS", desk.generic(0, 2), 3);
        due.is("count(2)", desk.count(2), 1);
        due.is("they are no more", desk.call(0, 0, 0), ClassDesk.ERROR + ClassDesk.INAPPLICABLE);
        due.is("those of others stay", desk.call(1, 0, 0), 0);
        due.is("generic(0, 2) has none left", desk.generic(0, 2), 0);
        due.is("with 2 PARAMETERS y is looked at", desk.call(0, 0, 5), ClassDesk.ERROR + ClassDesk.NONE);
        desk.generic(0, 1);
        due.is("with 1 it is not", desk.call(0, 0, 5), ClassDesk.ERROR + ClassDesk.INAPPLICABLE);
        due.is("their numbers are free", desk.method(0, 0, 0, 0, 0), 0);
    }

    private static void genericRefuses() {
        ClassDesk desk = chain();
        desk.method(0, 0, 0, 0, 0);
        for (int far : FAR) {
            due.is("generic(" + far + ", 1)", desk.generic(far, 1), ClassDesk.REFUSED);
            due.is("generic(0, " + far + ")", desk.generic(0, far), ClassDesk.REFUSED);
        }
        due.is("generic(5, 1)", desk.generic(5, 1), ClassDesk.REFUSED);
        due.is("generic(0, 0)", desk.generic(0, 0), ClassDesk.REFUSED);
        due.is("generic(0, 3)", desk.generic(0, 3), ClassDesk.REFUSED);
        due.is("its METHOD stays", desk.call(0, 0, 0), 100);
    }

    private static void methodNumbers() {
        ClassDesk desk = chain();
        method(desk, 0, 0, 0, 0, 0, 0);
        method(desk, 1, 1, 0, 0, 0, 0);
        method(desk, 2, 0, 3, 0, 0, 0);
        method(desk, 3, 0, 0, 16, 0, 0);
        desk.remove(1);
        desk.remove(0);
        method(desk, 0, 0, 0, 1, 0, 0);
        method(desk, 1, 0, 0, 2, 0, 0);
        method(desk, 4, 0, 0, 18, 0, 0);
        due.is("count(2)", desk.count(2), 5);
    }

    private static void methodOfTheSame() {
        ClassDesk desk = chain();
        method(desk, 0, 0, 0, 1, 0, 0);
        method(desk, 1, 1, 0, 1, 0, 0);
        due.is("call", desk.call(0, 1, 0), 100);
        method(desk, 0, 0, 0, 1, 0, 7);
        due.is("the other BODY", desk.call(0, 1, 0), 107);
        method(desk, 0, 0, 0, 1, 1, 6);
        due.is("t is not looked at", desk.call(0, 1, 0), 106);
        method(desk, 1, 1, 0, 1, 0, 3);
        due.is("call", desk.call(1, 1, 0), 103);
        method(desk, 2, 1, 0, 1, 1, 4);
        due.is("another second SPECIALIZER", desk.call(1, 1, 1), 104);
        due.is("the other stays", desk.call(1, 1, 0), 103);
        method(desk, 3, 1, 0, 0, 1, 5);
        method(desk, 4, 1, 3, 1, 1, 5);
        method(desk, 4, 1, 3, 1, 1, 6);
        due.is("count(2)", desk.count(2), 5);
    }

    private static void methodRefuses() {
        ClassDesk desk = chain();
        int refused = ClassDesk.REFUSED;
        for (int far : FAR) {
            method(desk, refused, far, 0, 0, 0, 0);
            method(desk, refused, 0, far, 0, 0, 0);
            method(desk, refused, 0, 0, far, 0, 0);
            method(desk, refused, 1, 0, 0, far, 0);
            method(desk, refused, 0, 0, 0, 0, far);
        }
        method(desk, refused, 5, 0, 0, 0, 0);
        method(desk, refused, 0, 4, 0, 0, 0);
        method(desk, refused, 0, 0, 0, 0, 8);
        int[] neither = {12, 13, 14, 15, 28, 29, 40};
        for (int s : neither) {
            method(desk, refused, 0, 0, s, 0, 0);
            method(desk, refused, 1, 0, s, 0, 0);
            method(desk, refused, 1, 0, 0, s, 0);
            method(desk, refused, 4, 0, s, 0, 0);
            // REFUSED comes before NONE.
            method(desk, refused, 1, 0, 9, s, 0);
        }
        due.is("count(2)", desk.count(2), 0);
    }

    private static void methodRefusesWhatIsNotThere() {
        ClassDesk desk = chain();
        int none = ClassDesk.NONE;
        method(desk, none, 2, 0, 0, 0, 0);
        method(desk, none, 0, 0, 3, 0, 0);
        method(desk, none, 0, 0, 11, 0, 0);
        method(desk, none, 0, 0, 19, 0, 0);
        method(desk, none, 0, 0, 27, 0, 0);
        method(desk, none, 1, 0, 0, 3, 0);
        method(desk, none, 1, 0, 0, 19, 0);
        method(desk, none, 1, 0, 3, 0, 0);
        due.is("count(2)", desk.count(2), 0);
        method(desk, 0, 1, 0, 18, 2, 0);
    }

    private static void methodWithoutParameters() {
        ClassDesk desk = chain();
        int[] anything = {Integer.MIN_VALUE, -1, 0, 3, 11, 12, 15, 16, 27, 28, Integer.MAX_VALUE};
        for (int t : anything) {
            method(desk, ClassDesk.NONE, 2, 0, 0, t, 0);
            method(desk, ClassDesk.NONE, 2, 3, 18, t, 7);
            method(desk, ClassDesk.NONE, 2, 0, 9, t, 0);
            // What is out of range elsewhere is REFUSED still.
            method(desk, ClassDesk.REFUSED, 2, 4, 0, t, 0);
            method(desk, ClassDesk.REFUSED, 2, 0, 12, t, 0);
            method(desk, ClassDesk.REFUSED, 2, 0, 0, t, 8);
        }
        due.is("count(2)", desk.count(2), 0);
    }

    private static void methodWithOneParameter() {
        ClassDesk desk = chain();
        method(desk, 0, 0, 0, 0, 12, 1);
        method(desk, 0, 0, 0, 0, -5, 2);
        method(desk, 0, 0, 0, 0, 27, 3);
        method(desk, 0, 0, 0, 0, 9, 4);
        due.is("count(2)", desk.count(2), 1);
        due.is("call", desk.call(0, 0, 0), 104);
        desk.method(0, 0, 1, 16, 5);
        desk.call(0, 1, 0);
        due.is("t is no SPECIALIZER, so that they are kept", desk.count(6), 1);
    }

    private static void methodFull() {
        ClassDesk desk = chain();
        for (int k = 0; k < 16; k++) {
            method(desk, k, 1, k % 4, k / 8, k / 4 % 2, 0);
        }
        due.is("count(2)", desk.count(2), 16);
        method(desk, ClassDesk.FULL, 0, 0, 0, 0, 0);
        method(desk, ClassDesk.FULL, 1, 0, 2, 0, 0);
        method(desk, ClassDesk.REFUSED, 1, 4, 2, 0, 0);
        method(desk, ClassDesk.NONE, 1, 0, 3, 0, 0);
        due.is("count(2)", desk.count(2), 16);
        // One that is there needs no room.
        method(desk, 15, 1, 3, 1, 1, 5);
        due.is("count(2)", desk.count(2), 16);
        due.is("call", desk.call(1, 1, 1), 105);
        desk.remove(9);
        method(desk, 9, 0, 0, 0, 0, 0);
    }

    private static void remove() {
        ClassDesk desk = chain();
        desk.method(1, 0, 0, 0, 1);
        desk.method(0, 0, 0, 0, 2);
        desk.method(0, 0, 1, 0, 3);
        due.is("call", desk.call(0, 1, 0), 103);
        due.is("remove(2)", desk.remove(2), 0);
        due.is("call", desk.call(0, 1, 0), 102);
        due.is("remove(2) again", desk.remove(2), ClassDesk.NONE);
        due.is("remove(0)", desk.remove(0), 1);
        due.is("call", desk.call(1, 0, 0), ClassDesk.ERROR + ClassDesk.INAPPLICABLE);
        due.is("count(2)", desk.count(2), 1);
        int[] wrong = {-1, 3, 15, 16, Integer.MIN_VALUE, Integer.MAX_VALUE};
        for (int m : wrong) {
            due.is("remove(" + m + ")", desk.remove(m), ClassDesk.NONE);
        }
        due.is("count(2)", desk.count(2), 1);
    }

    private static void step() {
        ClassDesk desk = new ClassDesk();
        desk.make(0);
        desk.generic(0, 1);
        desk.method(0, 0, 0, 0, 7);
        int sum = 0;
        for (int k = 1; k <= 8; k++) {
            due.is("step " + k, desk.step(7, 1, k), k);
            sum += k;
            due.is("in their order, from then on", desk.call(0, 0, 0), sum);
        }
        due.is("step 9", desk.step(7, 1, 9), ClassDesk.FULL);
        due.is("REFUSED before FULL", desk.step(7, 10, 9), ClassDesk.REFUSED);
        due.is("REFUSED before FULL", desk.step(7, 7, 5), ClassDesk.REFUSED);
        due.is("as it was", desk.call(0, 0, 0), sum);
        due.is("another BODY", desk.step(6, 1, 9), 1);
    }

    private static void stepRefuses() {
        ClassDesk desk = new ClassDesk();
        for (int far : FAR) {
            due.is("step(" + far + ", 0, 0)", desk.step(far, 0, 0), ClassDesk.REFUSED);
            due.is("step(0, " + far + ", 0)", desk.step(0, far, 0), ClassDesk.REFUSED);
        }
        due.is("step(8, 0, 0)", desk.step(8, 0, 0), ClassDesk.REFUSED);
        due.is("step(0, 10, 0)", desk.step(0, 10, 0), ClassDesk.REFUSED);
        int[] most = {0, 0, 5, 5, 0, 0, 0, 4, 11, 0};
        for (int op = 0; op < 10; op++) {
            boolean isBound = most[op] > 0;
            int[] outside = {Integer.MIN_VALUE, -1, most[op] + 1, Integer.MAX_VALUE};
            for (int a : outside) {
                desk.clear(0);
                due.is("step(0, " + op + ", " + a + ")", desk.step(0, op, a), isBound ? ClassDesk.REFUSED : 1);
            }
            desk.clear(0);
            due.is("the least a of op " + op, desk.step(0, op, 0), 1);
            due.is("the greatest a of op " + op, desk.step(0, op, most[op]), 2);
        }
        due.is("clear", desk.clear(0), 2);
    }

    private static void clear() {
        ClassDesk desk = new ClassDesk();
        desk.step(3, 0, 1);
        desk.step(3, 1, 1);
        desk.step(4, 0, 1);
        due.is("clear(3)", desk.clear(3), 2);
        due.is("clear(3) again", desk.clear(3), 0);
        due.is("clear(4)", desk.clear(4), 1);
        due.is("clear(7)", desk.clear(7), 0);
        due.is("clear(8)", desk.clear(8), ClassDesk.REFUSED);
        for (int far : FAR) {
            due.is("clear(" + far + ")", desk.clear(far), ClassDesk.REFUSED);
        }
        due.is("from the front again", desk.step(3, 0, 5), 1);
        desk.make(0);
        desk.generic(0, 1);
        desk.method(0, 0, 0, 0, 3);
        due.is("call", desk.call(0, 0, 0), 5);
        desk.clear(3);
        due.is("an empty BODY gives 0", desk.call(0, 0, 0), 0);
    }
}
