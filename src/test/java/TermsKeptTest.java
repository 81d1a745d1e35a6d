/** What the document's Terms say of EFFECTIVE METHODS that are kept. */
@Says("Terms")
public final class TermsKeptTest {
    public static void main(String[] args) {
        Sentences.run(TermsKeptTest.class);
    }

    /** Classes and INSTANCES 0, 1, 2 in a chain; GENERICS 0 (1 PARAMETER) and 1 (2), each with a PRIMARY for all. */
    private static ClassDesk two() {
        ClassDesk desk = Desks.chain(3);
        Desks.primary(desk, 0, 1, Desks.SAY, 1);
        Desks.primary(desk, 1, 2, Desks.SAY, 2);
        return desk;
    }

    /** The same, and both have been called for INSTANCE 0. */
    private static ClassDesk twoCalled() {
        ClassDesk desk = two();
        desk.call(0, 0, 0);
        desk.call(1, 0, 0);
        return desk;
    }

    @Says("EFFECTIVE METHODS are kept: for a GENERIC and the classes of its arguments the METHODS that are APPLICABLE, in order, are found once, and kept")
    static void foundOnceForAClass(Due due) {
        ClassDesk desk = two();
        Desks.foundAndKept(due, "at first", desk, 0, 0);
        desk.call(0, 1, 0);
        Desks.foundAndKept(due, "for class 1", desk, 1, 1);
        desk.call(0, 1, 0);
        desk.make(1);
        desk.call(0, 3, 2);
        Desks.foundAndKept(due, "for class 1 again, and for another of it", desk, 1, 1);
        desk.call(0, 2, 0);
        Desks.foundAndKept(due, "for class 2, which finds the same", desk, 2, 2);
    }

    @Says("EFFECTIVE METHODS are kept: for a GENERIC and the classes of its arguments the METHODS that are APPLICABLE, in order, are found once, and kept")
    static void foundOnceForTwoClasses(Due due) {
        ClassDesk desk = two();
        int found = 0;
        for (int x = 0; x < 3; x++) {
            for (int y = 0; y < 3; y++) {
                desk.call(1, x, y);
                found++;
                Desks.foundAndKept(due, "for classes " + x + ", " + y, desk, found, found);
                desk.call(1, x, y);
                Desks.foundAndKept(due, "for classes " + x + ", " + y + " again", desk, found, found);
            }
        }
    }

    @Says("for a GENERIC and the classes of its arguments")
    static void foundForTheClassOfThen(Due due) {
        ClassDesk desk = two();
        desk.call(0, 0, 0);
        desk.become(1, 0);
        desk.call(0, 1, 0);
        Desks.foundAndKept(due, "INSTANCE 1 is of class 0 by now", desk, 1, 1);
        desk.become(0, 2);
        desk.call(0, 0, 0);
        Desks.foundAndKept(due, "INSTANCE 0 is of class 2 by now", desk, 2, 2);
    }

    @Says("for a GENERIC and the classes of its arguments")
    static void foundForEachGeneric(Due due) {
        ClassDesk desk = Desks.chain(1);
        for (int g = 0; g <= 4; g++) {
            Desks.primary(desk, g, 1 + g % 2);
        }
        for (int g = 0; g <= 4; g++) {
            desk.call(g, 0, 0);
            Desks.foundAndKept(due, "GENERIC " + g, desk, g + 1, g + 1);
        }
    }

    @Says("for a GENERIC and the classes of its arguments")
    static void foundForAllClassesOfOneGeneric(Due due) {
        ClassDesk desk = Desks.chain(12);
        Desks.primary(desk, 4, 2);
        for (int x = 0; x < 12; x++) {
            for (int y = 0; y < 12; y++) {
                desk.call(4, x, y);
            }
        }
        Desks.foundAndKept(due, "144 pairs", desk, 144, 144);
        desk.call(4, 0, 11);
        desk.call(4, 11, 0);
        Desks.foundAndKept(due, "144 pairs", desk, 144, 144);
    }

    @Says("the METHODS that are APPLICABLE, in order, are found once, and kept")
    static void keptAlsoWhereThereAreNone(Due due) {
        ClassDesk desk = Desks.chain(1);
        desk.generic(0, 1);
        for (int round = 0; round < 3; round++) {
            due.is("call", desk.call(0, 0, 0), Desks.INAPPLICABLE);
            Desks.foundAndKept(due, "INAPPLICABLE", desk, 1, 1);
        }
        desk.method(0, Desks.BEFORE, 0, 0, 0);
        for (int round = 0; round < 3; round++) {
            due.is("call", desk.call(0, 0, 0), Desks.ALONE);
            Desks.foundAndKept(due, "ALONE", desk, 2, 1);
        }
    }

    @Says("the METHODS that are APPLICABLE, in order, are found once, and kept")
    static void whatIsKeptHasTheSameOrder(Due due) {
        ClassDesk desk = Desks.chain(3);
        desk.generic(0, 1);
        for (int b = 0; b < 3; b++) {
            Desks.body(desk, b, Desks.NOTE, b);
            desk.method(0, Desks.BEFORE, b, 0, b);
        }
        desk.method(0, Desks.PRIMARY, 0, 0, 3);
        for (int round = 0; round < 2; round++) {
            desk.call(0, 2, 0);
            desk.call(0, 1, 0);
            due.row("notes", Desks.notes(desk, 5), 2, 1, 0, 1, 0);
        }
        Desks.foundAndKept(due, "two classes", desk, 2, 2);
    }

    @Says("but where a METHOD is APPLICABLE that has an INSTANCE as a SPECIALIZER they are found anew each time, and not kept.")
    static void foundAnewForAnInstance(Due due) {
        ClassDesk desk = two();
        desk.method(0, Desks.AFTER, 17, 0, 2);
        for (int round = 1; round <= 3; round++) {
            desk.call(0, 1, 0);
            Desks.foundAndKept(due, "each time", desk, round, 0);
        }
    }

    @Says("but where a METHOD is APPLICABLE that has an INSTANCE as a SPECIALIZER they are found anew each time, and not kept.")
    static void keptForOthersOfItsClass(Due due) {
        ClassDesk desk = two();
        desk.make(1);
        Desks.body(desk, 2, Desks.SAY, 5);
        desk.method(0, Desks.PRIMARY, 17, 0, 2);
        for (int round = 1; round <= 3; round++) {
            due.is("another of its class", desk.call(0, 3, 0), 1);
            Desks.foundAndKept(due, "another of its class", desk, round, 1);
            due.is("that INSTANCE", desk.call(0, 1, 0), 5);
            Desks.foundAndKept(due, "that INSTANCE", desk, round + 1, 1);
        }
    }

    @Says("but where a METHOD is APPLICABLE that has an INSTANCE as a SPECIALIZER they are found anew each time, and not kept.")
    static void foundAnewForAnInstanceAtTheSecondParameter(Due due) {
        ClassDesk desk = two();
        desk.method(1, Desks.BEFORE, 0, 18, 2);
        desk.method(1, Desks.BEFORE, 0, 16, 2);
        for (int round = 1; round <= 3; round++) {
            desk.call(1, 0, 2);
            Desks.foundAndKept(due, "each time", desk, 2 * round - 1, 0);
            desk.call(1, 1, 0);
            Desks.foundAndKept(due, "each time for INSTANCE 0, too", desk, 2 * round, 0);
        }
    }

    @Says("but where a METHOD is APPLICABLE that has an INSTANCE as a SPECIALIZER they are found anew each time, and not kept.")
    static void foundAnewForTheFirstAndTheLastInstance(Due due) {
        ClassDesk desk = Desks.chain(12);
        Desks.primary(desk, 0, 1);
        desk.method(0, Desks.BEFORE, 16, 0, 0);
        desk.method(0, Desks.BEFORE, 27, 0, 0);
        for (int round = 1; round <= 2; round++) {
            desk.call(0, 0, 0);
            desk.call(0, 11, 0);
            Desks.foundAndKept(due, "INSTANCES 0 and 11", desk, 2 * round, 0);
        }
        desk.call(0, 10, 0);
        desk.call(0, 10, 0);
        Desks.foundAndKept(due, "INSTANCE 10", desk, 5, 1);
    }

    @Says("where a METHOD is APPLICABLE that has an INSTANCE as a SPECIALIZER")
    static void keptWhereThatMethodIsNotApplicable(Due due) {
        ClassDesk desk = two();
        desk.method(1, Desks.BEFORE, 1, 18, 2);
        desk.method(1, Desks.BEFORE, 18, 1, 2);
        for (int round = 1; round <= 2; round++) {
            desk.call(1, 0, 2);
            Desks.foundAndKept(due, "the first does not fit", desk, 1, 1);
        }
        for (int round = 1; round <= 2; round++) {
            desk.call(1, 2, 0);
            Desks.foundAndKept(due, "the second does not fit", desk, 2, 2);
        }
        desk.method(0, Desks.BEFORE, 17, 0, 2);
        desk.call(0, 2, 1);
        desk.call(0, 2, 1);
        Desks.foundAndKept(due, "y is not looked at with 1 PARAMETER", desk, 3, 3);
    }

    @Says("All are forgotten when a class is defined (anew)")
    static void allAreForgottenByDefine(Due due) {
        ClassDesk desk = twoCalled();
        Desks.foundAndKept(due, "before", desk, 2, 2);
        desk.define(11, 0, -1, -1);
        Desks.foundAndKept(due, "a class that has nothing to do with them", desk, 2, 0);
        desk.call(0, 0, 0);
        Desks.foundAndKept(due, "found anew", desk, 3, 1);
        desk.define(11, 0, -1, -1);
        Desks.foundAndKept(due, "the same class anew, with the same SUPERS", desk, 3, 0);
        desk.call(0, 0, 0);
        desk.call(1, 0, 0);
        Desks.foundAndKept(due, "found anew", desk, 5, 2);
    }

    @Says("All are forgotten when a class is defined (anew)")
    static void aRefusedDefineForgetsNothing(Due due) {
        ClassDesk desk = twoCalled();
        due.is("REFUSED", desk.define(0, 1, -1, -1), Desks.REFUSED);
        due.is("NONE", desk.define(5, 6, -1, -1), Desks.NONE);
        due.is("CYCLE", desk.define(1, 2, -1, -1), Desks.CYCLE);
        due.is("ORDER", desk.define(5, 0, 1, -1), Desks.ORDER);
        Desks.foundAndKept(due, "all refused", desk, 2, 2);
    }

    @Says("those of a GENERIC when it, or one of its METHODS, is defined or removed.")
    static void thoseOfAGenericAreForgottenWhenItIsDefined(Due due) {
        ClassDesk desk = twoCalled();
        desk.generic(4, 1);
        Desks.foundAndKept(due, "another GENERIC", desk, 2, 2);
        desk.generic(0, 1);
        Desks.foundAndKept(due, "GENERIC 0", desk, 2, 1);
        due.is("generic(0, 3)", desk.generic(1, 3), Desks.REFUSED);
        Desks.foundAndKept(due, "refused", desk, 2, 1);
        desk.generic(1, 2);
        Desks.foundAndKept(due, "GENERIC 1", desk, 2, 0);
        desk.call(1, 0, 0);
        Desks.foundAndKept(due, "found anew", desk, 3, 1);
    }

    @Says("those of a GENERIC when it, or one of its METHODS, is defined or removed.")
    static void thoseOfAGenericAreForgottenWhenAMethodIsDefined(Due due) {
        ClassDesk desk = twoCalled();
        desk.method(0, Desks.BEFORE, 2, 0, 3);
        Desks.foundAndKept(due, "a METHOD that is not APPLICABLE to them", desk, 2, 1);
        due.is("call", desk.call(0, 0, 0), 1);
        Desks.foundAndKept(due, "found anew", desk, 3, 2);
        Desks.body(desk, 4, Desks.SAY, 44);
        desk.method(0, Desks.PRIMARY, 0, 0, 4);
        Desks.foundAndKept(due, "one that is there gets a BODY", desk, 3, 1);
        due.is("call", desk.call(0, 0, 0), 44);
        Desks.foundAndKept(due, "found anew", desk, 4, 2);
        due.is("REFUSED", desk.method(0, 4, 0, 0, 0), Desks.REFUSED);
        due.is("NONE", desk.method(0, 0, 11, 0, 0), Desks.NONE);
        Desks.foundAndKept(due, "refused", desk, 4, 2);
    }

    @Says("those of a GENERIC when it, or one of its METHODS, is defined or removed.")
    static void aMethodForWhichThereIsNoRoomForgetsNothing(Due due) {
        ClassDesk desk = two();
        desk.generic(2, 1);
        int[] specializers = {0, 1, 2, 16};
        for (int m = 2; m < 16; m++) {
            Desks.method(due, desk, m, 2, m % 4, specializers[m / 4], 0, 0);
        }
        desk.call(0, 0, 0);
        Desks.foundAndKept(due, "before", desk, 1, 1);
        due.is("FULL", desk.method(0, Desks.BEFORE, 0, 0, 3), Desks.FULL);
        Desks.foundAndKept(due, "FULL", desk, 1, 1);
    }

    @Says("those of a GENERIC when it, or one of its METHODS, is defined or removed.")
    static void thoseOfAGenericAreForgottenWhenAMethodIsRemoved(Due due) {
        ClassDesk desk = two();
        int m = desk.method(0, Desks.BEFORE, 2, 0, 3);
        desk.call(0, 0, 0);
        desk.call(1, 0, 0);
        due.is("remove", desk.remove(15), Desks.NONE);
        Desks.foundAndKept(due, "there was none", desk, 2, 2);
        due.is("remove", desk.remove(m), 0);
        Desks.foundAndKept(due, "a METHOD that is not APPLICABLE to them", desk, 2, 1);
        due.is("remove", desk.remove(1), 1);
        Desks.foundAndKept(due, "that of GENERIC 1", desk, 2, 0);
        due.is("call", desk.call(1, 0, 0), Desks.INAPPLICABLE);
    }

    @Says("those of a GENERIC when it, or one of its METHODS, is defined or removed.")
    static void nothingElseForgets(Due due) {
        ClassDesk desk = twoCalled();
        desk.slot(0, 0, 1, 1);
        desk.put(0, 0, 2);
        desk.unbind(0, 0);
        desk.make(2);
        desk.become(2, 0);
        desk.step(0, Desks.ADD, 1);
        desk.clear(1);
        due.is("the BODY as it is now", desk.call(0, 0, 0), 2);
        due.is("the BODY as it is now", desk.call(1, 0, 0), 0);
        Desks.foundAndKept(due, "all are kept", desk, 2, 2);
    }
}
