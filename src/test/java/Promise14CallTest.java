/** Promise 14. */
@Says("Promise 14: call")
public final class Promise14CallTest {
    private static final long NONE = Desks.ERROR + Desks.NONE;

    public static void main(String[] args) {
        Sentences.run(Promise14CallTest.class);
    }

    @Says("GENERIC g is called with INSTANCES x and y")
    static void withInstancesXAndY(Due due) {
        ClassDesk desk = Desks.chain(12);
        desk.slot(0, 0, 1, 0);
        for (int i = 0; i <= 11; i++) {
            desk.put(i, 0, 1 + i);
        }
        for (int g = 0; g <= 4; g++) {
            Desks.primary(desk, g, 2, Desks.SAY, 1000 * g, Desks.GET, 0, Desks.SWAP, 0, Desks.GET, 0, Desks.GET, 0);
            Desks.call(due, desk, 1000 * g + 1 + 24, g, 0, 11);
            Desks.call(due, desk, 1000 * g + 12 + 2, g, 11, 0);
            Desks.call(due, desk, 1000 * g + 12 + 24, g, 11, 11);
        }
    }

    @Says("(y is not looked at with 1 PARAMETER)")
    static void yIsNotLookedAtWithOneParameter(Due due) {
        ClassDesk desk = Desks.chain(2);
        Desks.primary(desk, 0, 1, Desks.SAY, 5, Desks.SWAP, 0, Desks.CALL, 1);
        desk.generic(1, 2);
        desk.method(1, Desks.PRIMARY, 16, 16, 1);
        int[] any = {0, 1, 2, 11, 12, 16, -1, Desks.LEAST, Desks.MOST};
        for (int y : any) {
            Desks.call(due, desk, 5, 0, 0, y);
        }
    }

    @Says("the int that it gives")
    static void theIntThatItGives(Due due) {
        ClassDesk desk = Desks.chain(1);
        int[] ints = {0, 1, -1, -2, -11, Desks.LEAST, Desks.MOST};
        for (int k = 0; k < ints.length; k++) {
            Desks.primary(desk, 0, 1, Desks.SAY, ints[k]);
            Desks.call(due, desk, ints[k], 0, 0, 0);
            due.is("none of them is an ERROR", desk.count(8), k + 1);
        }
    }

    @Says("or ERROR + NONE (g has no PARAMETERS, or an INSTANCE is not there)")
    static void noneIfGHasNoParameters(Due due) {
        ClassDesk desk = Desks.chain(1);
        desk.generic(2, 1);
        int[] without = {0, 1, 3, 4, 5, -1, Desks.LEAST, Desks.MOST};
        for (int g : without) {
            Desks.call(due, desk, NONE, g, 0, 0);
        }
        Desks.call(due, desk, Desks.INAPPLICABLE, 2, 0, 0);
        Desks.leavesAll(due, "call(2, 0, 0)", NONE, busy -> busy.call(2, 0, 0));
        Desks.leavesAll(due, "call(5, 0, 0)", NONE, busy -> busy.call(5, 0, 0));
        Desks.leavesAll(due, "call(-1, 0, 0)", NONE, busy -> busy.call(-1, 0, 0));
    }

    @Says("or an INSTANCE is not there)")
    static void noneIfAnInstanceIsNotThere(Due due) {
        ClassDesk desk = Desks.chain(2);
        Desks.primary(desk, 0, 1);
        Desks.primary(desk, 1, 2);
        int[] notThere = {2, 11, 12, 16, -1, Desks.LEAST, Desks.MOST};
        for (int n : notThere) {
            Desks.call(due, desk, NONE, 0, n, 0);
            Desks.call(due, desk, NONE, 1, n, 0);
            Desks.call(due, desk, NONE, 1, 0, n);
            Desks.call(due, desk, NONE, 1, n, n);
        }
        due.is("nothing was found for them", desk.count(5), 0);
        due.is("nothing was called", desk.count(4), 0);
        Desks.leavesAll(due, "call(0, 3, 0)", NONE, busy -> busy.call(0, 3, 0));
        Desks.leavesAll(due, "call(1, 0, 3)", NONE, busy -> busy.call(1, 0, 3));
    }

    @Says("or ERROR + NONE (g has no PARAMETERS, or an INSTANCE is not there)")
    static void noneBeforeOtherErrors(Due due) {
        ClassDesk desk = Desks.chain(1);
        desk.generic(0, 1);
        due.is("no METHODS, and no such INSTANCE", desk.call(0, 1, 0), NONE);
        due.is("no METHODS", desk.call(0, 0, 0), Desks.INAPPLICABLE);
    }

    @Says("or another ERROR.")
    static void anotherError(Due due) {
        ClassDesk desk = Desks.chain(1);
        desk.slot(0, 1, 2, 0);
        Desks.primary(desk, 0, 1, Desks.GET, 0);
        due.is("MISSING", desk.call(0, 0, 0), Desks.MISSING);
        Desks.primary(desk, 0, 1, Desks.GET, 1);
        due.is("UNBOUND", desk.call(0, 0, 0), Desks.UNBOUND);
        Desks.primary(desk, 0, 1, Desks.NEXT, 0);
        due.is("LAST", desk.call(0, 0, 0), Desks.LAST);
        Desks.primary(desk, 0, 1, Desks.CALL, 0);
        due.is("DEEP", desk.call(0, 0, 0), Desks.DEEP);
        Desks.primary(desk, 0, 1, Desks.CALL, 3);
        due.is("NONE", desk.call(0, 0, 0), NONE);
        desk.generic(0, 1);
        due.is("INAPPLICABLE", desk.call(0, 0, 0), Desks.INAPPLICABLE);
        desk.method(0, Desks.AROUND, 0, 0, 0);
        due.is("ALONE", desk.call(0, 0, 0), Desks.ALONE);
        due.is("calls without ERROR", desk.count(8), 0);
    }
}
