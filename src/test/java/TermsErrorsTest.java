/** What the document's Terms say of ERRORS. */
@Says("Terms")
public final class TermsErrorsTest {
    private static final long NONE = Desks.ERROR + Desks.NONE;

    public static void main(String[] args) {
        Sentences.run(TermsErrorsTest.class);
    }

    @Says("ERRORS end all")
    static void errorsEndAllThatIsOpen(Due due) {
        ClassDesk desk = Desks.chain(1);
        desk.generic(0, 1);
        Desks.body(desk, 0, Desks.NOTE, 1, Desks.NEXT, 0, Desks.NOTE, 9);
        Desks.body(desk, 1, Desks.NOTE, 2, Desks.CALL, 1, Desks.NOTE, 9);
        Desks.body(desk, 2, Desks.NOTE, 3, Desks.GET, 0, Desks.NOTE, 9);
        Desks.body(desk, 3, Desks.NOTE, 9);
        desk.method(0, Desks.AROUND, 0, 0, 0);
        desk.method(0, Desks.PRIMARY, 0, 0, 1);
        desk.method(0, Desks.AFTER, 0, 0, 3);
        desk.generic(1, 1);
        desk.method(1, Desks.BEFORE, 0, 0, 2);
        desk.method(1, Desks.PRIMARY, 0, 0, 3);
        Desks.call(due, desk, Desks.MISSING, 0, 0, 0);
        due.row("nothing behind it is done", Desks.notes(desk, 4), Desks.NONE, 1, 2, 3);
        due.is("count(4)", desk.count(4), 3);
        due.is("count(8)", desk.count(8), 0);
    }

    @Says("what was done before stays.")
    static void whatWasDoneBeforeStays(Due due) {
        ClassDesk desk = Desks.chain(2);
        desk.slot(0, 0, 1, 1);
        desk.slot(0, 1, 3, 2);
        Desks.primary(desk, 0, 1, Desks.SAY, 7, Desks.PUT, 0, Desks.PUT, 1, Desks.NOTE, 5, Desks.BECOME, 1, Desks.NEXT, 0);
        Desks.call(due, desk, Desks.LAST, 0, 0, 0);
        due.is("PUT, LOCAL", desk.get(0, 0), 7);
        due.is("PUT, SHARED", desk.get(1, 1), 7);
        due.is("NOTE", desk.noted(0), 5);
        due.is("BECOME", desk.look(0, 0), 1);
        due.is("calls of BODIES", desk.count(4), 1);
        due.is("steps", desk.count(9), 6);
        due.is("EFFECTIVE METHODS", desk.count(6), 1);
        due.is("LAYOUTS", desk.count(7), 2);
    }

    @Says("what was done before stays.")
    static void theNextCallBeginsAnew(Due due) {
        ClassDesk desk = Desks.chain(2);
        Desks.primary(desk, 0, 1, Desks.CALL, 0);
        Desks.primary(desk, 1, 1, Desks.SAY, 3);
        Desks.call(due, desk, Desks.DEEP, 0, 0, 0);
        Desks.call(due, desk, 3, 1, 0, 0);
        Desks.body(desk, 0, Desks.CALL, 1);
        Desks.call(due, desk, 3, 0, 0, 0);
    }

    @Says("NONE: a CALL of a GENERIC without PARAMETERS")
    static void noneForACallOfAGenericWithoutParameters(Due due) {
        ClassDesk desk = Desks.chain(1);
        Desks.primary(desk, 0, 1, Desks.CALL, 4, Desks.NOTE, 1);
        Desks.call(due, desk, NONE, 0, 0, 0);
        due.is("count(3)", desk.count(3), 0);
        due.is("nothing was found for it", desk.count(5), 1);
        Desks.primary(desk, 4, 1, Desks.SAY, 2);
        Desks.call(due, desk, 2, 0, 0, 0);
    }

    @Says("or BECOME of a class that is not there.")
    static void noneForBecomeOfAClassThatIsNotThere(Due due) {
        ClassDesk desk = Desks.chain(1);
        for (int c = 1; c <= 11; c++) {
            Desks.primary(desk, 0, 1, Desks.BECOME, c, Desks.NOTE, 1);
            Desks.call(due, desk, NONE, 0, 0, 0);
        }
        due.is("its class", desk.look(0, 0), 0);
        due.is("count(3)", desk.count(3), 0);
        desk.slot(0, 0, 1, 5);
        Desks.call(due, desk, NONE, 0, 0, 0);
        due.is("it was not TOUCHED", desk.look(0, 1), 0);
        desk.define(11, 0, -1, -1);
        Desks.call(due, desk, 0, 0, 0, 0);
        due.is("it was TOUCHED", desk.look(0, 1), 1);
    }

    @Says("MISSING: a SLOT that its class does not have.")
    static void missingInGetAndPut(Due due) {
        ClassDesk desk = Desks.chain(2);
        desk.slot(1, 5, 1, 4);
        Desks.primary(desk, 0, 1, Desks.GET, 5);
        Desks.primary(desk, 1, 1, Desks.PUT, 5);
        due.is("GET", desk.call(0, 0, 0), Desks.MISSING);
        due.is("PUT", desk.call(1, 0, 0), Desks.MISSING);
        due.is("class 1 has it: GET", desk.call(0, 1, 0), 4);
        due.is("class 1 has it: PUT", desk.call(1, 1, 0), 0);
    }

    @Says("UNBOUND: without a VALUE.")
    static void unboundInGetAlone(Due due) {
        ClassDesk desk = Desks.chain(1);
        desk.slot(0, 0, 2, 4);
        Desks.primary(desk, 0, 1, Desks.GET, 0);
        Desks.primary(desk, 1, 1, Desks.SAY, 6, Desks.PUT, 0);
        due.is("GET", desk.call(0, 0, 0), Desks.UNBOUND);
        due.is("PUT gives it one", desk.call(1, 0, 0), 6);
        due.is("GET", desk.call(0, 0, 0), 6);
        desk.unbind(0, 0);
        due.is("GET behind unbind", desk.call(0, 0, 0), Desks.UNBOUND);
    }

    @Says("INAPPLICABLE: no METHOD that is APPLICABLE.")
    static void inapplicable(Due due) {
        ClassDesk desk = Desks.chain(2);
        desk.generic(0, 1);
        due.is("no METHODS", desk.call(0, 0, 0), Desks.INAPPLICABLE);
        desk.method(0, Desks.PRIMARY, 1, 0, 0);
        desk.method(0, Desks.BEFORE, 17, 0, 0);
        due.is("none for class 0", desk.call(0, 0, 0), Desks.INAPPLICABLE);
        due.is("count(4)", desk.count(4), 0);
        Desks.primary(desk, 1, 1, Desks.NOTE, 1, Desks.CALL, 0, Desks.NOTE, 2);
        due.is("by a CALL", desk.call(1, 0, 0), Desks.INAPPLICABLE);
        due.is("noted(0)", desk.noted(0), 1);
        due.is("class 1", desk.call(0, 1, 0), 0);
    }

    @Says("ALONE: no PRIMARY among them (looked at second, before anything is done).")
    static void aloneWithEachOtherKind(Due due) {
        for (int kind = Desks.BEFORE; kind <= Desks.AROUND; kind++) {
            ClassDesk desk = Desks.chain(2);
            desk.generic(0, 1);
            Desks.body(desk, 0, Desks.NOTE, 1);
            desk.method(0, kind, 0, 0, 0);
            desk.method(0, Desks.PRIMARY, 1, 0, 1);
            due.is("KIND " + kind, desk.call(0, 0, 0), Desks.ALONE);
            due.is("nothing was NOTED", desk.count(3), 0);
            due.is("nothing was called", desk.count(4), 0);
            due.is("nothing was done", desk.count(9), 0);
            due.is("class 1 has a PRIMARY", desk.call(0, 1, 0), 0);
        }
    }

    @Says("ALONE: no PRIMARY among them (looked at second, before anything is done).")
    static void aloneIsLookedAtSecond(Due due) {
        ClassDesk desk = Desks.chain(2);
        desk.generic(0, 1);
        desk.method(0, Desks.BEFORE, 1, 0, 0);
        due.is("none is APPLICABLE, and none is a PRIMARY", desk.call(0, 0, 0), Desks.INAPPLICABLE);
        due.is("one is APPLICABLE, and none is a PRIMARY", desk.call(0, 1, 0), Desks.ALONE);
    }

    @Says("LAST: NEXT where there is none")
    static void lastInTheLastPrimary(Due due) {
        ClassDesk desk = Desks.chain(2);
        Desks.primary(desk, 0, 1, Desks.NOTE, 1, Desks.NEXT, 0, Desks.NOTE, 2);
        Desks.call(due, desk, Desks.LAST, 0, 0, 0);
        desk.method(0, Desks.PRIMARY, 1, 0, 0);
        Desks.call(due, desk, Desks.LAST, 0, 1, 0);
        due.row("the second of two", Desks.notes(desk, 4), Desks.NONE, 1, 1, 1);
        desk.method(0, Desks.AROUND, 0, 0, 0);
        due.is("behind an AROUND", desk.call(0, 0, 0), Desks.LAST);
    }

    @Says("or in a BEFORE or AFTER.")
    static void lastInABeforeOrAfter(Due due) {
        for (int kind = Desks.BEFORE; kind <= Desks.AFTER; kind++) {
            ClassDesk desk = Desks.chain(2);
            Desks.primary(desk, 0, 1);
            desk.method(0, Desks.PRIMARY, 1, 0, 0);
            Desks.body(desk, 1, Desks.NOTE, 1, Desks.NEXT, 0);
            desk.method(0, kind, 0, 0, 1);
            desk.method(0, kind, 1, 0, 1);
            // There are others of its KIND, and PRIMARIES, but none is its next.
            due.is("KIND " + kind, desk.call(0, 1, 0), Desks.LAST);
            due.is("the first of them ended it", desk.count(3), 1);
        }
    }

    /** GENERIC 0 counts in name 0 how often it was at work, and CALLS itself. */
    private static ClassDesk endless(int n) {
        ClassDesk desk = Desks.chain(1);
        desk.slot(0, 0, 1, 0);
        Desks.primary(desk, 0, n, Desks.GET, 0, Desks.ADD, 1, Desks.PUT, 0, Desks.CALL, 0);
        return desk;
    }

    @Says("DEEP: 12 GENERICS are at work (that of call() is one), and a CALL would begin another one")
    static void deepWithTwelveAtWork(Due due) {
        for (int n = 1; n <= 2; n++) {
            ClassDesk desk = endless(n);
            Desks.call(due, desk, Desks.DEEP, 0, 0, 0);
            due.is("twelve were at work", desk.get(0, 0), 12);
            due.is("calls of BODIES", desk.count(4), 12);
            due.is("steps", desk.count(9), 48);
        }
    }

    /**
     * GENERICS 0 to 3 CALL on in a ring, three times round: in class 1 and 2 GENERIC 3 begins a new round,
     * in class 3 it is the twelfth at work, with BODY 5. Each but the twelfth adds 1.
     */
    private static ClassDesk ring() {
        ClassDesk desk = new ClassDesk();
        for (int c = 1; c <= 3; c++) {
            desk.define(c, 0, -1, -1);
        }
        desk.make(1);
        for (int g = 0; g < 3; g++) {
            Desks.primary(desk, g, 1, Desks.CALL, g + 1, Desks.ADD, 1);
        }
        desk.generic(3, 1);
        Desks.body(desk, 3, Desks.BECOME, 2, Desks.CALL, 0, Desks.ADD, 1);
        Desks.body(desk, 4, Desks.BECOME, 3, Desks.CALL, 0, Desks.ADD, 1);
        desk.method(3, Desks.PRIMARY, 1, 0, 3);
        desk.method(3, Desks.PRIMARY, 2, 0, 4);
        desk.method(3, Desks.PRIMARY, 3, 0, 5);
        desk.generic(4, 1);
        desk.method(4, Desks.PRIMARY, 0, 0, 6);
        return desk;
    }

    @Says("DEEP: 12 GENERICS are at work (that of call() is one), and a CALL would begin another one")
    static void twelveAreNotDeepAndThirteenAre(Due due) {
        ClassDesk desk = ring();
        due.is("twelve", desk.call(0, 0, 0), 11);
        due.is("calls of BODIES", desk.count(4), 12);
        desk.become(0, 1);
        desk.step(5, Desks.CALL, 4);
        due.is("thirteen", desk.call(0, 0, 0), Desks.DEEP);
        due.is("the thirteenth did not begin", desk.count(4), 24);
        desk.become(0, 1);
        due.is("twelve from GENERIC 1 on", desk.call(1, 0, 0), 10);
    }

    @Says("DEEP: 12 GENERICS are at work (that of call() is one), and a CALL would begin another one")
    static void nextBeginsNoGeneric(Due due) {
        ClassDesk desk = ring();
        desk.method(3, Desks.PRIMARY, 0, 0, 7);
        Desks.body(desk, 5, Desks.NEXT, 0);
        Desks.body(desk, 7, Desks.SAY, 100);
        due.is("NEXT with twelve at work", desk.call(0, 0, 0), 111);
    }

    @Says("DEEP: 12 GENERICS are at work (that of call() is one), and a CALL would begin another one")
    static void oneThatHasEndedIsNotAtWork(Due due) {
        ClassDesk desk = ring();
        Desks.body(desk, 2, Desks.CALL, 4, Desks.CALL, 3, Desks.ADD, 1, Desks.CALL, 4);
        Desks.body(desk, 6, Desks.ADD, 10);
        // Three rounds with two of GENERIC 4 each, none of which is at work any more where the next begins.
        due.is("one behind the other", desk.call(0, 0, 0), 11 + 60);
    }

    @Says("DEEP: 12 GENERICS are at work (that of call() is one), and a CALL would begin another one")
    static void withTwelveAtWorkOneWithoutParametersIsNone(Due due) {
        ClassDesk desk = new ClassDesk();
        desk.make(0);
        desk.define(1, 0, -1, -1);
        desk.define(2, 0, -1, -1);
        Desks.primary(desk, 0, 1, Desks.CALL, 1);
        Desks.primary(desk, 1, 1, Desks.CALL, 2);
        Desks.primary(desk, 2, 1, Desks.CALL, 3);
        desk.generic(3, 1);
        Desks.body(desk, 3, Desks.BECOME, 1, Desks.CALL, 0);
        Desks.body(desk, 4, Desks.BECOME, 2, Desks.CALL, 0);
        Desks.body(desk, 5, Desks.CALL, 4);
        desk.method(3, Desks.PRIMARY, 0, 0, 3);
        desk.method(3, Desks.PRIMARY, 1, 0, 4);
        desk.method(3, Desks.PRIMARY, 2, 0, 5);
        // GENERIC 4 has no PARAMETERS: a CALL of it would begin none.
        due.is("NONE", desk.call(0, 0, 0), NONE);
        due.is("with twelve at work", desk.count(4), 12);
    }

    /** A call() of GENERIC 0 for INSTANCE 1 does 6 * (1 + 7 * (1 + 6)) = 300 steps and gives 252. */
    private static ClassDesk busyFor300Steps() {
        ClassDesk desk = Desks.chain(2);
        desk.generic(0, 1);
        for (int k = 0; k < 7; k++) {
            if (k < 6) {
                desk.step(0, Desks.NEXT, 0);
                desk.step(2, Desks.ADD, 1);
            }
            desk.step(1, Desks.NEXT, 0);
        }
        desk.method(0, Desks.AROUND, 1, 0, 0);
        desk.method(0, Desks.AROUND, 0, 0, 1);
        desk.method(0, Desks.PRIMARY, 0, 0, 2);
        return desk;
    }

    @Says("or 300 steps were done in one call(), and another one would be.")
    static void threeHundredStepsAreNotDeep(Due due) {
        ClassDesk desk = busyFor300Steps();
        Desks.call(due, desk, 252, 0, 1, 0);
        due.is("steps", desk.count(9), 300);
        // A BODY without steps may follow.
        desk.method(0, Desks.AFTER, 0, 0, 3);
        Desks.call(due, desk, 252, 0, 1, 0);
        // Each call() begins at 0.
        due.is("steps", desk.count(9), 600);
        due.is("calls without ERROR", desk.count(8), 2);
    }

    @Says("or 300 steps were done in one call(), and another one would be.")
    static void threeHundredAndOneStepsAreDeep(Due due) {
        ClassDesk desk = busyFor300Steps();
        desk.step(0, Desks.NOTE, 1);
        Desks.call(due, desk, Desks.DEEP, 0, 1, 0);
        due.is("the step too many was not done", desk.count(3), 0);
        due.is("steps", desk.count(9), 300);
        due.is("calls without ERROR", desk.count(8), 0);
    }

    @Says("or 300 steps were done in one call(), and another one would be.")
    static void theStepsOfAllGenericsCountTogether(Due due) {
        ClassDesk desk = busyFor300Steps();
        desk.generic(1, 1);
        Desks.body(desk, 3, Desks.NOTE, 1, Desks.CALL, 0);
        desk.method(1, Desks.PRIMARY, 0, 0, 3);
        due.is("2 and 300", desk.call(1, 1, 0), Desks.DEEP);
        due.is("steps", desk.count(9), 300);
        desk.clear(2);
        due.is("2 and 48", desk.call(1, 1, 0), 0);
        desk.step(3, Desks.CALL, 0);
        due.is("2 and 48 and 1 and 48", desk.call(1, 1, 0), 0);
        due.is("steps", desk.count(9), 300 + 50 + 99);
    }

    @Says("or 300 steps were done in one call(), and another one would be.")
    static void stepsOfBeforesAndAftersCountToo(Due due) {
        for (int kind = Desks.BEFORE; kind <= Desks.AFTER; kind++) {
            ClassDesk desk = busyFor300Steps();
            Desks.body(desk, 3, Desks.ADD, 1);
            desk.method(0, kind, 0, 0, 3);
            due.is("KIND " + kind, desk.call(0, 1, 0), Desks.DEEP);
            due.is("steps", desk.count(9), 300);
        }
    }

    @Says("or 300 steps were done in one call(), and another one would be.")
    static void theStepTooManyIsNotLookedAt(Due due) {
        for (int op = Desks.SAY; op <= Desks.SWAP; op++) {
            ClassDesk desk = busyFor300Steps();
            // GET, PUT, CALL and BECOME would each be another ERROR here.
            desk.step(0, op, 4);
            Desks.call(due, desk, Desks.DEEP, 0, 1, 0);
        }
    }
}
