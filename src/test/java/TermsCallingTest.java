/** What the document's Terms say of CALLING a GENERIC. */
@Says("Terms")
public final class TermsCallingTest {
    public static void main(String[] args) {
        Sentences.run(TermsCallingTest.class);
    }

    /** Classes 0, 1, 2 in a chain, GENERIC 0 with 1 PARAMETER; BODY b NOTES b, and up to 3 goes on with NEXT. */
    private static ClassDesk noting() {
        ClassDesk desk = Desks.chain(3);
        desk.generic(0, 1);
        for (int b = 0; b < 8; b++) {
            Desks.body(desk, b, Desks.NOTE, b, b < 4 ? Desks.NEXT : Desks.SAY, 10 + b);
        }
        return desk;
    }

    @Says("CALLING a GENERIC: with the METHODS that are APPLICABLE (as they are then).")
    static void onlyThoseThatAreApplicable(Due due) {
        ClassDesk desk = noting();
        desk.method(0, Desks.PRIMARY, 0, 0, 4);
        desk.method(0, Desks.PRIMARY, 2, 0, 5);
        desk.method(0, Desks.BEFORE, 2, 0, 6);
        desk.method(0, Desks.AFTER, 17, 0, 7);
        desk.method(0, Desks.AROUND, 2, 0, 0);
        Desks.call(due, desk, 14, 0, 0, 0);
        due.is("one BODY", desk.count(4), 1);
        Desks.call(due, desk, 14, 0, 1, 0);
        due.is("two BODIES", desk.count(4), 3);
        Desks.call(due, desk, 15, 0, 2, 0);
        due.is("three BODIES", desk.count(4), 6);
    }

    @Says("CALLING a GENERIC: with the METHODS that are APPLICABLE (as they are then).")
    static void asTheyAreWhenItIsCalled(Due due) {
        ClassDesk desk = noting();
        desk.method(0, Desks.PRIMARY, 0, 0, 4);
        Desks.call(due, desk, 14, 0, 2, 0);
        int m = desk.method(0, Desks.PRIMARY, 1, 0, 5);
        Desks.call(due, desk, 15, 0, 2, 0);
        desk.define(2, 0, -1, -1);
        Desks.call(due, desk, 14, 0, 2, 0);
        desk.become(2, 1);
        Desks.call(due, desk, 15, 0, 2, 0);
        desk.remove(m);
        Desks.call(due, desk, 14, 0, 2, 0);
    }

    @Says("CALLING a GENERIC: with the METHODS that are APPLICABLE (as they are then).")
    static void notAsTheyAreLaterOn(Due due) {
        ClassDesk desk = noting();
        Desks.body(desk, 3, Desks.NOTE, 3, Desks.BECOME, 0, Desks.NEXT, 0);
        desk.method(0, Desks.AROUND, 2, 0, 3);
        desk.method(0, Desks.BEFORE, 2, 0, 6);
        desk.method(0, Desks.PRIMARY, 2, 0, 4);
        desk.method(0, Desks.PRIMARY, 0, 0, 5);
        desk.method(0, Desks.AFTER, 1, 0, 7);
        desk.method(0, Desks.AFTER, 0, 0, 5);
        // When the AROUND is through its first steps the INSTANCE is of class 0.
        Desks.call(due, desk, 14, 0, 2, 0);
        due.row("as they were at the beginning", Desks.notes(desk, 5), 3, 6, 4, 5, 7);
        Desks.call(due, desk, 15, 0, 2, 0);
    }

    @Says("The AROUNDS from the most specific one on, each by NEXT of the one before")
    static void aroundsOneByTheOther(Due due) {
        ClassDesk desk = noting();
        desk.method(0, Desks.PRIMARY, 0, 0, 4);
        desk.method(0, Desks.AROUND, 0, 0, 3);
        desk.method(0, Desks.AROUND, 2, 0, 1);
        desk.method(0, Desks.AROUND, 18, 0, 0);
        desk.method(0, Desks.AROUND, 1, 0, 2);
        Desks.call(due, desk, 14, 0, 2, 0);
        due.row("notes", Desks.notes(desk, 5), 0, 1, 2, 3, 4);
        // Without NEXT none behind it is called.
        Desks.body(desk, 2, Desks.NOTE, 2);
        Desks.call(due, desk, 0, 0, 2, 0);
        due.row("notes", Desks.notes(desk, 4), 4, 0, 1, 2);
        // With two of them each is called again.
        Desks.body(desk, 0, Desks.NEXT, 0, Desks.NEXT, 0);
        Desks.call(due, desk, 0, 0, 2, 0);
        due.row("notes", Desks.notes(desk, 4), 1, 2, 1, 2);
    }

    @Says("then, where an AROUND does NEXT and is the last one (or without AROUNDS at once)")
    static void allOthersWhereTheLastAroundDoesNext(Due due) {
        ClassDesk desk = noting();
        desk.method(0, Desks.PRIMARY, 0, 0, 4);
        desk.method(0, Desks.BEFORE, 0, 0, 5);
        desk.method(0, Desks.AFTER, 0, 0, 6);
        desk.method(0, Desks.AROUND, 0, 0, 7);
        Desks.call(due, desk, 17, 0, 0, 0);
        due.row("the last AROUND does no NEXT", Desks.notes(desk, 2), Desks.NONE, 7);
        Desks.body(desk, 7, Desks.NOTE, 7, Desks.NEXT, 0, Desks.NOTE, 8, Desks.NEXT, 0, Desks.NOTE, 9);
        Desks.call(due, desk, 28, 0, 0, 0);
        due.row("it does NEXT twice", Desks.notes(desk, 9), 7, 5, 4, 6, 8, 5, 4, 6, 9);
    }

    @Says("then, where an AROUND does NEXT and is the last one (or without AROUNDS at once)")
    static void allOthersAtOnceWithoutArounds(Due due) {
        ClassDesk desk = noting();
        desk.method(0, Desks.AROUND, 1, 0, 7);
        desk.method(0, Desks.PRIMARY, 0, 0, 4);
        desk.method(0, Desks.BEFORE, 0, 0, 5);
        desk.method(0, Desks.AFTER, 0, 0, 6);
        Desks.call(due, desk, 14, 0, 0, 0);
        due.row("notes", Desks.notes(desk, 4), Desks.NONE, 5, 4, 6);
    }

    @Says("all BEFORES from the most specific one on")
    static void beforesFromTheMostSpecificOn(Due due) {
        ClassDesk desk = noting();
        desk.method(0, Desks.BEFORE, 1, 0, 6);
        desk.method(0, Desks.BEFORE, 18, 0, 4);
        desk.method(0, Desks.BEFORE, 0, 0, 7);
        desk.method(0, Desks.BEFORE, 2, 0, 5);
        desk.method(0, Desks.PRIMARY, 0, 0, 7);
        Desks.call(due, desk, 17, 0, 2, 0);
        due.row("notes", Desks.notes(desk, 6), Desks.NONE, 4, 5, 6, 7, 7);
    }

    @Says("the most specific PRIMARY, whose NEXT are the others in that order")
    static void primariesOneByTheOther(Due due) {
        ClassDesk desk = noting();
        desk.method(0, Desks.PRIMARY, 0, 0, 4);
        desk.method(0, Desks.PRIMARY, 2, 0, 1);
        desk.method(0, Desks.PRIMARY, 18, 0, 0);
        desk.method(0, Desks.PRIMARY, 1, 0, 2);
        desk.method(0, Desks.BEFORE, 0, 0, 6);
        desk.method(0, Desks.AFTER, 0, 0, 7);
        Desks.call(due, desk, 14, 0, 2, 0);
        due.row("BEFORES and AFTERS only once", Desks.notes(desk, 7), Desks.NONE, 6, 0, 1, 2, 4, 7);
        // Without NEXT none behind it is called.
        Desks.body(desk, 1, Desks.NOTE, 1, Desks.SAY, 9);
        Desks.call(due, desk, 9, 0, 2, 0);
        due.row("notes", Desks.notes(desk, 5), 7, 6, 0, 1, 7);
    }

    @Says("all AFTERS from the least specific one on")
    static void aftersFromTheLeastSpecificOn(Due due) {
        ClassDesk desk = noting();
        desk.method(0, Desks.AFTER, 1, 0, 6);
        desk.method(0, Desks.AFTER, 18, 0, 4);
        desk.method(0, Desks.AFTER, 0, 0, 7);
        desk.method(0, Desks.AFTER, 2, 0, 5);
        desk.method(0, Desks.PRIMARY, 0, 0, 4);
        Desks.call(due, desk, 14, 0, 2, 0);
        due.row("notes", Desks.notes(desk, 6), Desks.NONE, 4, 7, 6, 5, 4);
    }

    @Says("what comes of it is that of the PRIMARY.")
    static void whatComesOfItIsThatOfThePrimary(Due due) {
        ClassDesk desk = Desks.chain(2);
        Desks.primary(desk, 0, 1, Desks.SAY, Desks.LEAST);
        Desks.body(desk, 1, Desks.SAY, 1000);
        Desks.body(desk, 2, Desks.NEXT, 0);
        desk.method(0, Desks.AFTER, 0, 0, 1);
        Desks.call(due, desk, Desks.LEAST, 0, 1, 0);
        desk.method(0, Desks.AROUND, 0, 0, 2);
        Desks.call(due, desk, Desks.LEAST, 0, 1, 0);
    }

    @Says("(What BEFORES and AFTERS give does not matter.)")
    static void whatBeforesAndAftersGiveDoesNotMatter(Due due) {
        ClassDesk desk = Desks.chain(2);
        Desks.primary(desk, 0, 1, Desks.ADD, 3);
        Desks.body(desk, 1, Desks.SAY, 1000);
        for (int c = 0; c < 2; c++) {
            desk.method(0, Desks.BEFORE, c, 0, 1);
            desk.method(0, Desks.AFTER, c, 0, 1);
        }
        Desks.call(due, desk, 3, 0, 1, 0);
        desk.generic(1, 1);
        Desks.body(desk, 2, Desks.ADD, 50, Desks.CALL, 0);
        desk.method(1, Desks.PRIMARY, 0, 0, 2);
        desk.method(1, Desks.BEFORE, 0, 0, 1);
        Desks.call(due, desk, 53, 1, 1, 0);
    }
}
