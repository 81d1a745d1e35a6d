/** Promise 10. */
@Says("Promise 10: method")
public final class Promise10MethodTest {
    public static void main(String[] args) {
        Sentences.run(Promise10MethodTest.class);
    }

    /** Classes and INSTANCES 0, 1, 2 in a chain; GENERIC 0 with 1 PARAMETER, 1 with 2; BODY b gives 100 + b. */
    private static ClassDesk two() {
        ClassDesk desk = Desks.chain(3);
        desk.generic(0, 1);
        desk.generic(1, 2);
        for (int b = 0; b <= 7; b++) {
            desk.step(b, Desks.SAY, 100 + b);
        }
        return desk;
    }

    /** The same with 16 METHODS of GENERIC 1, one for each KIND and pair of classes 0 and 1. */
    private static ClassDesk full() {
        ClassDesk desk = two();
        for (int m = 0; m < 16; m++) {
            desk.method(1, m % 4, m / 8, m / 4 % 2, 0);
        }
        return desk;
    }

    @Says("A METHOD of GENERIC g: its number (the least that is free, 0..15)")
    static void theLeastNumberThatIsFree(Due due) {
        ClassDesk desk = two();
        for (int m = 0; m <= 15; m++) {
            Desks.method(due, desk, m, m % 2, m / 2 % 4, m / 8, 0, 0);
        }
        due.is("count(2)", desk.count(2), 16);
        desk.remove(15);
        desk.remove(7);
        desk.remove(0);
        Desks.method(due, desk, 0, 0, 0, 2, 0, 0);
        Desks.method(due, desk, 7, 1, 0, 2, 0, 0);
        Desks.method(due, desk, 15, 1, 0, 2, 2, 0);
    }

    @Says("if it has one of the same KIND and SPECIALIZERS that gets the BODY.")
    static void oneOfTheSameGetsTheBody(Due due) {
        ClassDesk desk = two();
        Desks.method(due, desk, 0, 0, Desks.PRIMARY, 1, 0, 0);
        Desks.method(due, desk, 0, 0, Desks.PRIMARY, 1, 0, 7);
        Desks.call(due, desk, 107, 0, 1, 0);
        Desks.method(due, desk, 1, 1, Desks.PRIMARY, 1, 18, 1);
        Desks.method(due, desk, 1, 1, Desks.PRIMARY, 1, 18, 2);
        Desks.call(due, desk, 102, 1, 1, 2);
        due.is("count(2)", desk.count(2), 2);
    }

    @Says("if it has one of the same KIND and SPECIALIZERS that gets the BODY.")
    static void oneThatDiffersIsAnother(Due due) {
        ClassDesk desk = two();
        Desks.method(due, desk, 0, 1, Desks.PRIMARY, 1, 1, 0);
        due.is("another KIND", desk.method(1, Desks.AROUND, 1, 1, 0), 1);
        due.is("another s", desk.method(1, Desks.PRIMARY, 0, 1, 0), 2);
        due.is("an INSTANCE for s", desk.method(1, Desks.PRIMARY, 17, 1, 0), 3);
        due.is("another t", desk.method(1, Desks.PRIMARY, 1, 0, 0), 4);
        due.is("an INSTANCE for t", desk.method(1, Desks.PRIMARY, 1, 17, 0), 5);
        due.is("the other way round", desk.method(1, Desks.PRIMARY, 0, 1, 0), 2);
        desk.generic(2, 2);
        due.is("another GENERIC", desk.method(2, Desks.PRIMARY, 1, 1, 0), 6);
        due.is("the same as the first", desk.method(1, Desks.PRIMARY, 1, 1, 3), 0);
    }

    @Says("SPECIALIZERS are classes 0..11, or 16 and the number of an INSTANCE")
    static void theLeastAndTheGreatestSpecializers(Due due) {
        ClassDesk desk = Desks.chain(12);
        desk.generic(0, 1);
        desk.generic(1, 2);
        int[] ends = {0, 11, 16, 27};
        for (int k = 0; k < 4; k++) {
            Desks.method(due, desk, 3 * k, 0, 0, ends[k], 0, 0);
            Desks.method(due, desk, 3 * k + 1, 1, 0, ends[k], 5, 0);
            Desks.method(due, desk, 3 * k + 2, 1, 0, 5, ends[k], 0);
        }
        due.is("count(2)", desk.count(2), 12);
    }

    @Says("16 and the number of an INSTANCE")
    static void sixteenAndItsNumber(Due due) {
        ClassDesk desk = Desks.chain(12);
        for (int i = 0; i <= 11; i++) {
            desk.generic(0, 1);
            Desks.method(due, desk, 0, 0, 0, 16 + i, 0, 0);
            Desks.call(due, desk, 0, 0, i, 0);
            Desks.call(due, desk, Desks.INAPPLICABLE, 0, (i + 1) % 12, 0);
        }
    }

    @Says("(t is not looked at with 1 PARAMETER).")
    static void tIsNotLookedAtWithOneParameter(Due due) {
        ClassDesk desk = two();
        int[] any = {0, 1, 11, 12, 15, 16, 17, 27, 28, -1, Desks.LEAST, Desks.MOST};
        for (int t : any) {
            Desks.method(due, desk, 0, 0, 0, 1, t, 0);
        }
        due.is("all of them are the same METHOD", desk.count(2), 1);
        Desks.call(due, desk, 100, 0, 2, 0);
        due.is("so that it names no INSTANCE", desk.count(6), 1);
    }

    @Says("REFUSED if g is not 0..4")
    static void refusedIfGIsNot0To4(Due due) {
        ClassDesk desk = two();
        for (int g : Desks.outside(0, 4)) {
            Desks.method(due, desk, Desks.REFUSED, g, 0, 0, 0, 0);
        }
        Desks.leavesAll(due, "method(5, 0, 0, 0, 0)", Desks.REFUSED, busy -> busy.method(5, 0, 0, 0, 0));
    }

    @Says("kind not 0..3")
    static void refusedIfKindIsNot0To3(Due due) {
        ClassDesk desk = two();
        for (int kind : Desks.outside(0, 3)) {
            Desks.method(due, desk, Desks.REFUSED, 0, kind, 0, 0, 0);
        }
        Desks.method(due, desk, 0, 0, 3, 0, 0, 0);
        Desks.leavesAll(due, "method(0, 4, 0, 0, 0)", Desks.REFUSED, busy -> busy.method(0, 4, 0, 0, 0));
    }

    @Says("body not 0..7")
    static void refusedIfBodyIsNot0To7(Due due) {
        ClassDesk desk = two();
        for (int body : Desks.outside(0, 7)) {
            Desks.method(due, desk, Desks.REFUSED, 0, 0, 0, 0, body);
        }
        Desks.method(due, desk, 0, 0, 0, 0, 0, 7);
        Desks.leavesAll(due, "method(0, 0, 0, 0, 8)", Desks.REFUSED, busy -> busy.method(0, 0, 0, 0, 8));
    }

    @Says("or a SPECIALIZER is neither")
    static void refusedIfASpecializerIsNeither(Due due) {
        ClassDesk desk = two();
        int[] neither = {12, 13, 14, 15, 28, 29, 32, -1, -16, Desks.LEAST, Desks.MOST};
        for (int n : neither) {
            Desks.method(due, desk, Desks.REFUSED, 0, 0, n, 0, 0);
            Desks.method(due, desk, Desks.REFUSED, 1, 0, n, 0, 0);
            Desks.method(due, desk, Desks.REFUSED, 1, 0, 0, n, 0);
        }
        due.is("count(2)", desk.count(2), 0);
        Desks.leavesAll(due, "method(0, 0, 12, 0, 0)", Desks.REFUSED, busy -> busy.method(0, 0, 12, 0, 0));
        Desks.leavesAll(due, "method(1, 0, 0, 28, 0)", Desks.REFUSED, busy -> busy.method(1, 0, 0, 28, 0));
    }

    @Says("NONE if g has no PARAMETERS")
    static void noneIfGHasNoParameters(Due due) {
        ClassDesk desk = two();
        int[] any = {0, 1, 11, 12, 15, 16, 27, 28, -1, Desks.LEAST, Desks.MOST};
        for (int t : any) {
            Desks.method(due, desk, Desks.NONE, 2, 0, 0, t, 0);
            Desks.method(due, desk, Desks.NONE, 4, 3, 16, t, 7);
        }
        Desks.leavesAll(due, "method(2, 0, 0, 0, 0)", Desks.NONE, busy -> busy.method(2, 0, 0, 0, 0));
    }

    @Says("or a class or INSTANCE is not there")
    static void noneIfASpecializerIsNotThere(Due due) {
        ClassDesk desk = two();
        int[] notThere = {3, 11, 19, 27};
        for (int n : notThere) {
            Desks.method(due, desk, Desks.NONE, 0, 0, n, 0, 0);
            Desks.method(due, desk, Desks.NONE, 1, 0, n, 0, 0);
            Desks.method(due, desk, Desks.NONE, 1, 0, 0, n, 0);
        }
        due.is("count(2)", desk.count(2), 0);
        Desks.leavesAll(due, "method(0, 0, 4, 0, 0)", Desks.NONE, busy -> busy.method(0, 0, 4, 0, 0));
        Desks.leavesAll(due, "method(1, 0, 0, 19, 0)", Desks.NONE, busy -> busy.method(1, 0, 0, 19, 0));
    }

    @Says("REFUSED if g is not 0..4, kind not 0..3, body not 0..7, or a SPECIALIZER is neither; NONE if g has no PARAMETERS, or a class or INSTANCE is not there")
    static void refusedBeforeNone(Due due) {
        ClassDesk desk = two();
        due.is("kind, and no PARAMETERS", desk.method(2, 4, 0, 0, 0), Desks.REFUSED);
        due.is("body, and no PARAMETERS", desk.method(2, 0, 0, 0, 8), Desks.REFUSED);
        due.is("kind, and no such class", desk.method(0, 4, 9, 0, 0), Desks.REFUSED);
        due.is("body, and no such INSTANCE", desk.method(0, 0, 25, 0, 8), Desks.REFUSED);
        due.is("t, and no such class", desk.method(1, 0, 9, 12, 0), Desks.REFUSED);
        due.is("s, and no such class", desk.method(1, 0, 12, 9, 0), Desks.REFUSED);
    }

    @Says("FULL if there are 16.")
    static void fullIfThereAre16(Due due) {
        ClassDesk desk = full();
        due.is("count(2)", desk.count(2), 16);
        Desks.method(due, desk, Desks.FULL, 0, 0, 0, 0, 0);
        Desks.method(due, desk, Desks.FULL, 1, 0, 2, 0, 0);
        due.is("count(2)", desk.count(2), 16);
        due.is("GENERIC 0 has none", desk.generic(0, 1), 0);
        desk.remove(15);
        Desks.method(due, desk, 15, 0, 0, 0, 0, 0);
        Desks.method(due, desk, Desks.FULL, 0, 1, 0, 0, 0);
    }

    @Says("NONE if g has no PARAMETERS, or a class or INSTANCE is not there; FULL if there are 16.")
    static void refusedAndNoneBeforeFull(Due due) {
        ClassDesk desk = full();
        Desks.method(due, desk, Desks.REFUSED, 0, 4, 0, 0, 0);
        Desks.method(due, desk, Desks.REFUSED, 0, 0, 12, 0, 0);
        Desks.method(due, desk, Desks.NONE, 2, 0, 0, 0, 0);
        Desks.method(due, desk, Desks.NONE, 0, 0, 3, 0, 0);
        Desks.method(due, desk, Desks.NONE, 0, 0, 19, 0, 0);
        Desks.method(due, desk, Desks.FULL, 0, 0, 0, 0, 0);
    }

    @Says("if it has one of the same KIND and SPECIALIZERS that gets the BODY.")
    static void oneOfTheSameNeedsNoRoom(Due due) {
        ClassDesk desk = full();
        Desks.method(due, desk, 15, 1, 3, 1, 1, 5);
        Desks.call(due, desk, 105, 1, 1, 1);
        due.is("count(2)", desk.count(2), 16);
    }
}
