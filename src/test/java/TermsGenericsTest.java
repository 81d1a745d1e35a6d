/** What the document's Terms say of GENERICS and METHODS. */
@Says("Terms")
public final class TermsGenericsTest {
    public static void main(String[] args) {
        Sentences.run(TermsGenericsTest.class);
    }

    @Says("GENERICS 0..4")
    static void fiveGenerics(Due due) {
        ClassDesk desk = Desks.chain(1);
        for (int g = 0; g <= 4; g++) {
            Desks.primary(desk, g, 1, Desks.SAY, 10 + g);
        }
        for (int g = 0; g <= 4; g++) {
            Desks.call(due, desk, 10 + g, g, 0, 0);
        }
        for (int g : Desks.outside(0, 4)) {
            due.is("generic(" + g + ", 1)", desk.generic(g, 1), Desks.REFUSED);
            Desks.call(due, desk, Desks.ERROR + Desks.NONE, g, 0, 0);
        }
    }

    @Says("have 1 or 2 PARAMETERS")
    static void oneOrTwoParameters(Due due) {
        ClassDesk desk = Desks.chain(2);
        Desks.body(desk, 0, Desks.SAY, 1);
        desk.generic(0, 1);
        desk.method(0, Desks.PRIMARY, 0, 1, 0);
        Desks.call(due, desk, 1, 0, 0, 0);
        desk.generic(0, 2);
        desk.method(0, Desks.PRIMARY, 0, 1, 0);
        Desks.call(due, desk, Desks.INAPPLICABLE, 0, 0, 0);
        Desks.call(due, desk, 1, 0, 0, 1);
        due.is("0 PARAMETERS", desk.generic(0, 0), Desks.REFUSED);
        due.is("3 PARAMETERS", desk.generic(0, 3), Desks.REFUSED);
    }

    @Says("and METHODS (16 in all GENERICS)")
    static void sixteenMethodsInAllGenerics(Due due) {
        ClassDesk desk = Desks.chain(1);
        for (int g = 0; g <= 4; g++) {
            desk.generic(g, 1);
        }
        for (int m = 0; m < 16; m++) {
            Desks.method(due, desk, m, m % 5, m / 5, 0, 0, 0);
        }
        for (int g = 1; g <= 4; g++) {
            Desks.method(due, desk, Desks.FULL, g, Desks.AROUND, 0, 0, 0);
        }
        due.is("count(2)", desk.count(2), 16);
        desk.remove(3);
        Desks.method(due, desk, 3, 4, Desks.AROUND, 0, 0, 0);
        Desks.method(due, desk, Desks.FULL, 3, Desks.AROUND, 0, 0, 0);
    }

    @Says("each has a KIND (0 PRIMARY, 1 BEFORE, 2 AFTER, 3 AROUND)")
    static void theFourKinds(Due due) {
        ClassDesk desk = Desks.chain(1);
        desk.generic(0, 1);
        for (int kind = 0; kind <= 3; kind++) {
            Desks.body(desk, kind, Desks.NOTE, kind, Desks.SAY, 10 + kind);
            desk.method(0, kind, 0, 0, kind);
        }
        desk.step(3, Desks.NEXT, 0);
        Desks.call(due, desk, 13 + 10, 0, 0, 0);
        due.row("AROUND, BEFORE, PRIMARY, AFTER", Desks.notes(desk, 4), 3, 1, 0, 2);
    }

    @Says("for each PARAMETER a SPECIALIZER (a class, or one INSTANCE)")
    static void aSpecializerForEachParameter(Due due) {
        ClassDesk desk = Desks.chain(3);
        desk.generic(0, 2);
        for (int b = 0; b < 4; b++) {
            Desks.body(desk, b, Desks.SAY, 10 + b);
        }
        desk.method(0, Desks.PRIMARY, 1, 1, 0);
        desk.method(0, Desks.PRIMARY, 1, 16, 1);
        desk.method(0, Desks.PRIMARY, 16, 1, 2);
        desk.method(0, Desks.PRIMARY, 16, 16, 3);
        Desks.call(due, desk, 10, 0, 2, 1);
        Desks.call(due, desk, 11, 0, 1, 0);
        Desks.call(due, desk, 12, 0, 0, 2);
        Desks.call(due, desk, 13, 0, 0, 0);
    }

    @Says("and a BODY (0..7).")
    static void aBodyFrom0To7(Due due) {
        ClassDesk desk = Desks.chain(1);
        desk.generic(0, 1);
        for (int b = 0; b <= 7; b++) {
            Desks.body(desk, b, Desks.SAY, 10 + b);
        }
        for (int b = 0; b <= 7; b++) {
            Desks.method(due, desk, 0, 0, Desks.PRIMARY, 0, 0, b);
            Desks.call(due, desk, 10 + b, 0, 0, 0);
        }
        for (int b : Desks.outside(0, 7)) {
            Desks.method(due, desk, Desks.REFUSED, 0, Desks.PRIMARY, 0, 0, b);
        }
        Desks.call(due, desk, 17, 0, 0, 0);
    }

    @Says("and a BODY (0..7).")
    static void someMethodsMayHaveTheSameBody(Due due) {
        ClassDesk desk = Desks.chain(2);
        Desks.primary(desk, 0, 1, Desks.SAY, 1);
        desk.generic(1, 1);
        desk.method(1, Desks.PRIMARY, 1, 0, 0);
        Desks.call(due, desk, 1, 0, 1, 0);
        Desks.call(due, desk, 1, 1, 1, 0);
        desk.step(0, Desks.ADD, 5);
        Desks.call(due, desk, 6, 0, 1, 0);
        Desks.call(due, desk, 6, 1, 1, 0);
    }

    @Says("It is APPLICABLE if each argument is that INSTANCE, or its class is a SUBCLASS of that class.")
    static void applicableForThatInstanceAlone(Due due) {
        ClassDesk desk = Desks.chain(2);
        desk.make(1);
        desk.generic(0, 1);
        desk.method(0, Desks.PRIMARY, 17, 0, 0);
        Desks.call(due, desk, 0, 0, 1, 0);
        Desks.call(due, desk, Desks.INAPPLICABLE, 0, 2, 0);
        Desks.call(due, desk, Desks.INAPPLICABLE, 0, 0, 0);
        // It is that INSTANCE whatever its class.
        desk.become(1, 0);
        Desks.call(due, desk, 0, 0, 1, 0);
    }

    @Says("It is APPLICABLE if each argument is that INSTANCE, or its class is a SUBCLASS of that class.")
    static void applicableForThatClassAndThoseBelow(Due due) {
        ClassDesk desk = Desks.chain(4);
        desk.generic(0, 1);
        desk.method(0, Desks.PRIMARY, 2, 0, 0);
        Desks.call(due, desk, Desks.INAPPLICABLE, 0, 0, 0);
        Desks.call(due, desk, Desks.INAPPLICABLE, 0, 1, 0);
        Desks.call(due, desk, 0, 0, 2, 0);
        Desks.call(due, desk, 0, 0, 3, 0);
    }

    @Says("It is APPLICABLE if each argument is that INSTANCE, or its class is a SUBCLASS of that class.")
    static void eachArgumentMustFit(Due due) {
        ClassDesk desk = Desks.chain(3);
        desk.generic(0, 2);
        desk.method(0, Desks.PRIMARY, 1, 18, 0);
        Desks.call(due, desk, 0, 0, 1, 2);
        Desks.call(due, desk, Desks.INAPPLICABLE, 0, 0, 2);
        Desks.call(due, desk, Desks.INAPPLICABLE, 0, 1, 1);
        desk.generic(0, 2);
        desk.method(0, Desks.PRIMARY, 18, 1, 0);
        Desks.call(due, desk, 0, 0, 2, 1);
        Desks.call(due, desk, Desks.INAPPLICABLE, 0, 2, 0);
        Desks.call(due, desk, Desks.INAPPLICABLE, 0, 1, 1);
        // Both may be the same INSTANCE.
        Desks.call(due, desk, 0, 0, 2, 2);
    }

    /** GENERIC 0 with 2 PARAMETERS and two PRIMARIES; 1 is answered if the first is the more specific. */
    private static void firstIsMoreSpecific(Due due, ClassDesk desk, int s, int t, int otherS, int otherT, int x, int y) {
        Desks.body(desk, 1, Desks.SAY, 1);
        Desks.body(desk, 2, Desks.SAY, 2);
        desk.generic(0, 2);
        desk.method(0, Desks.PRIMARY, s, t, 1);
        desk.method(0, Desks.PRIMARY, otherS, otherT, 2);
        Desks.call(due, desk, 1, 0, x, y);
        // Their numbers do not decide.
        desk.generic(0, 2);
        desk.method(0, Desks.PRIMARY, otherS, otherT, 2);
        desk.method(0, Desks.PRIMARY, s, t, 1);
        Desks.call(due, desk, 1, 0, x, y);
    }

    @Says("Of two APPLICABLE ones the more specific is that whose SPECIALIZER is better at the first PARAMETER where they are not the same")
    static void theFirstParameterDecides(Due due) {
        firstIsMoreSpecific(due, Desks.chain(3), 2, 0, 1, 2, 2, 2);
        firstIsMoreSpecific(due, Desks.chain(3), 1, 0, 0, 18, 2, 2);
        firstIsMoreSpecific(due, Desks.chain(12), 11, 0, 10, 27, 11, 11);
        firstIsMoreSpecific(due, Desks.chain(12), 1, 0, 0, 27, 11, 11);
        firstIsMoreSpecific(due, Desks.chain(12), 27, 0, 11, 11, 11, 11);
    }

    @Says("Of two APPLICABLE ones the more specific is that whose SPECIALIZER is better at the first PARAMETER where they are not the same")
    static void theSecondDecidesWhereTheFirstIsTheSame(Due due) {
        firstIsMoreSpecific(due, Desks.chain(3), 1, 2, 1, 1, 2, 2);
        firstIsMoreSpecific(due, Desks.chain(3), 18, 1, 18, 0, 2, 2);
        firstIsMoreSpecific(due, Desks.chain(12), 0, 1, 0, 0, 11, 11);
    }

    @Says("an INSTANCE before classes")
    static void anInstanceBeforeClasses(Due due) {
        firstIsMoreSpecific(due, Desks.chain(3), 18, 0, 2, 2, 2, 2);
        firstIsMoreSpecific(due, Desks.chain(3), 2, 18, 2, 2, 2, 2);
        firstIsMoreSpecific(due, Desks.chain(1), 16, 0, 0, 0, 0, 0);
    }

    @Says("classes as in the PRECEDENCE of the argument's class.")
    static void classesAsInThePrecedence(Due due) {
        ClassDesk desk = new ClassDesk();
        desk.define(1, 0, -1, -1);
        desk.define(2, 0, -1, -1);
        desk.define(3, 1, 2, -1);
        desk.define(4, 2, 1, -1);
        desk.make(3);
        desk.make(4);
        firstIsMoreSpecific(due, desk, 1, 0, 2, 0, 0, 0);
        firstIsMoreSpecific(due, desk, 2, 0, 1, 0, 1, 0);
        // Each argument by its own class.
        firstIsMoreSpecific(due, desk, 0, 2, 0, 1, 0, 1);
        firstIsMoreSpecific(due, desk, 0, 1, 0, 2, 1, 0);
    }
}
