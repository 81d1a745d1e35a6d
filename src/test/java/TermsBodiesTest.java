/** What the document's Terms say of BODIES and of their steps. */
@Says("Terms")
public final class TermsBodiesTest {
    public static void main(String[] args) {
        Sentences.run(TermsBodiesTest.class);
    }

    /** What one BODY of these steps gives for INSTANCE 0 of class 0. */
    private static void gives(Due due, long want, int... steps) {
        ClassDesk desk = Desks.chain(1);
        Desks.primary(desk, 0, 1, steps);
        Desks.call(due, desk, want, 0, 0, 0);
    }

    /** INSTANCES 0 to 3 with 1, 10, 100, 1000 in name 0, which is LOCAL for all. */
    private static ClassDesk withInts() {
        ClassDesk desk = Desks.chain(4);
        desk.slot(0, 0, 1, 0);
        int v = 1;
        for (int i = 0; i < 4; i++) {
            desk.put(i, 0, v);
            v *= 10;
        }
        return desk;
    }

    @Says("BODIES are rows of up to 8 steps (op, a)")
    static void upToEightSteps(Due due) {
        ClassDesk desk = Desks.chain(1);
        Desks.primary(desk, 0, 1);
        due.is("no steps", desk.call(0, 0, 0), 0);
        int sum = 0;
        for (int k = 1; k <= 8; k++) {
            due.is("step " + k, desk.step(0, Desks.ADD, 1 << k), k);
            sum += 1 << k;
            Desks.call(due, desk, sum, 0, 0, 0);
        }
        due.is("step 9", desk.step(0, Desks.ADD, 1 << 9), Desks.FULL);
        Desks.call(due, desk, sum, 0, 0, 0);
    }

    @Says("BODIES are rows of up to 8 steps (op, a)")
    static void theStepsAreDoneInTheirOrder(Due due) {
        gives(due, 7, Desks.ADD, 5, Desks.SAY, 3, Desks.ADD, 4);
        gives(due, 3, Desks.ADD, 5, Desks.ADD, 4, Desks.SAY, 3);
    }

    @Says("with an int X, at first 0, which it gives in the end")
    static void xIsZeroAtFirstInEachBody(Due due) {
        gives(due, 0);
        gives(due, 1, Desks.ADD, 1);
        ClassDesk desk = Desks.chain(2);
        Desks.primary(desk, 0, 1, Desks.ADD, 1);
        Desks.body(desk, 1, Desks.ADD, 10, Desks.NEXT, 0);
        desk.method(0, Desks.AROUND, 0, 0, 1);
        desk.method(0, Desks.BEFORE, 0, 0, 0);
        Desks.call(due, desk, 11, 0, 0, 0);
        // Nothing of an earlier call is left in it.
        Desks.call(due, desk, 11, 0, 0, 0);
    }

    @Says("with an int X, at first 0, which it gives in the end")
    static void xIsAnInt(Due due) {
        gives(due, Desks.MOST, Desks.SAY, Desks.MOST);
        gives(due, Desks.LEAST, Desks.SAY, Desks.LEAST);
        for (int like = -1; like >= -11; like--) {
            gives(due, like, Desks.SAY, like);
        }
    }

    @Says("0 SAY: X is a")
    static void sayPutsAway(Due due) {
        gives(due, -4, Desks.SAY, 9, Desks.SAY, -4);
        gives(due, 0, Desks.SAY, 9, Desks.SAY, 0);
    }

    @Says("1 ADD a (wraps)")
    static void addWraps(Due due) {
        gives(due, Desks.LEAST, Desks.SAY, Desks.MOST, Desks.ADD, 1);
        gives(due, Desks.MOST, Desks.SAY, Desks.LEAST, Desks.ADD, -1);
        gives(due, 0, Desks.SAY, Desks.LEAST, Desks.ADD, Desks.LEAST);
        gives(due, -2, Desks.SAY, Desks.MOST, Desks.ADD, Desks.MOST);
        gives(due, -1, Desks.SAY, Desks.MOST, Desks.ADD, Desks.LEAST);
    }

    @Says("2 GET a: the SLOT of that name of the first argument is added")
    static void getAdds(Due due) {
        ClassDesk desk = withInts();
        desk.slot(0, 5, 3, 4);
        Desks.primary(desk, 0, 2, Desks.SAY, 5000, Desks.GET, 0, Desks.GET, 5);
        Desks.call(due, desk, 5104, 0, 2, 1);
        Desks.call(due, desk, 5014, 0, 1, 2);
    }

    @Says("2 GET a: the SLOT of that name of the first argument is added")
    static void getWraps(Due due) {
        ClassDesk desk = withInts();
        desk.put(0, 0, Desks.MOST);
        Desks.primary(desk, 0, 1, Desks.SAY, 1, Desks.GET, 0);
        Desks.call(due, desk, Desks.LEAST, 0, 0, 0);
        desk.put(0, 0, Desks.LEAST);
        desk.step(0, Desks.GET, 0);
        Desks.call(due, desk, 1, 0, 0, 0);
    }

    @Says("3 PUT a: that SLOT is X")
    static void putPutsX(Due due) {
        ClassDesk desk = withInts();
        desk.slot(0, 1, 3, 0);
        desk.slot(0, 2, 2, 0);
        Desks.primary(desk, 0, 2, Desks.SAY, Desks.LEAST, Desks.PUT, 0, Desks.ADD, 1, Desks.PUT, 1,
                Desks.ADD, 1, Desks.PUT, 2);
        Desks.call(due, desk, Desks.LEAST + 2, 0, 1, 2);
        due.is("LOCAL", desk.get(1, 0), Desks.LEAST);
        due.is("SHARED", desk.get(3, 1), Desks.LEAST + 1);
        due.is("without a VALUE", desk.get(1, 2), Desks.LEAST + 2);
        due.is("the second argument's", desk.get(2, 0), 100);
    }

    @Says("4 NEXT: X grows by what the next METHOD gives (for the same arguments)")
    static void nextAddsForTheSameArguments(Due due) {
        ClassDesk desk = withInts();
        Desks.primary(desk, 0, 2, Desks.GET, 0, Desks.SWAP, 0, Desks.GET, 0);
        Desks.body(desk, 1, Desks.SAY, 5, Desks.NEXT, 0, Desks.NEXT, 0);
        desk.method(0, Desks.PRIMARY, 1, 0, 1);
        Desks.call(due, desk, 5 + 110 + 110, 0, 1, 2);
        desk.method(0, Desks.AROUND, 1, 0, 1);
        Desks.call(due, desk, 5 + 225 + 225, 0, 1, 2);
    }

    @Says("4 NEXT: X grows by what the next METHOD gives (for the same arguments)")
    static void nextWraps(Due due) {
        ClassDesk desk = Desks.chain(2);
        Desks.primary(desk, 0, 1, Desks.SAY, Desks.MOST);
        Desks.body(desk, 1, Desks.SAY, 2, Desks.NEXT, 0);
        desk.method(0, Desks.PRIMARY, 1, 0, 1);
        Desks.call(due, desk, Desks.LEAST + 1, 0, 1, 0);
    }

    /** BODY 0 gives what HASNEXT answers, in METHODS for class 0 and for class 1. */
    private static ClassDesk asking(int kind) {
        ClassDesk desk = Desks.chain(2);
        desk.slot(0, 0, 3, 9);
        desk.generic(0, 1);
        Desks.body(desk, 0, Desks.SAY, 7, Desks.HASNEXT, 0, Desks.PUT, 0);
        desk.method(0, kind, 0, 0, 0);
        desk.method(0, kind, 1, 0, 0);
        if (kind != Desks.PRIMARY) {
            desk.method(0, Desks.PRIMARY, 0, 0, 1);
        }
        return desk;
    }

    @Says("5 HASNEXT: X is 1 if there is a next METHOD")
    static void hasNextInAPrimary(Due due) {
        ClassDesk desk = asking(Desks.PRIMARY);
        Desks.call(due, desk, 1, 0, 1, 0);
        Desks.call(due, desk, 0, 0, 0, 0);
    }

    @Says("(or, in an AROUND, a PRIMARY), else 0")
    static void hasNextInAnAround(Due due) {
        ClassDesk desk = asking(Desks.AROUND);
        Desks.call(due, desk, 1, 0, 1, 0);
        // The last AROUND has the PRIMARY behind it.
        Desks.call(due, desk, 1, 0, 0, 0);
    }

    @Says("(or, in an AROUND, a PRIMARY), else 0")
    static void hasNextInABeforeOrAfterIs0(Due due) {
        for (int kind = Desks.BEFORE; kind <= Desks.AFTER; kind++) {
            ClassDesk desk = asking(kind);
            Desks.call(due, desk, 0, 0, 1, 0);
            due.is("HASNEXT in KIND " + kind, desk.get(0, 0), 0);
        }
    }

    @Says("6 NOTE a: a is NOTED")
    static void noteNotesA(Due due) {
        ClassDesk desk = Desks.chain(1);
        Desks.primary(desk, 0, 1, Desks.SAY, 5, Desks.NOTE, Desks.LEAST, Desks.NOTE, Desks.MOST);
        Desks.call(due, desk, 5, 0, 0, 0);
        due.row("a, not X", Desks.notes(desk, 3), Desks.NONE, Desks.LEAST, Desks.MOST);
        due.is("count(3)", desk.count(3), 2);
    }

    @Says("7 CALL a: X grows by what GENERIC a gives for the same arguments")
    static void callAddsForTheSameArguments(Due due) {
        ClassDesk desk = withInts();
        Desks.primary(desk, 0, 2, Desks.SAY, 5, Desks.CALL, 4, Desks.CALL, 4);
        Desks.primary(desk, 4, 2, Desks.GET, 0);
        Desks.call(due, desk, 5 + 10 + 10, 0, 1, 2);
    }

    @Says("7 CALL a: X grows by what GENERIC a gives for the same arguments")
    static void callWraps(Due due) {
        ClassDesk desk = Desks.chain(1);
        Desks.primary(desk, 0, 1, Desks.SAY, -1, Desks.CALL, 1);
        Desks.primary(desk, 1, 1, Desks.SAY, Desks.LEAST);
        Desks.call(due, desk, Desks.MOST, 0, 0, 0);
    }

    @Says("(for two if it has two; the second is the first if there is only one)")
    static void callForTwoOrOne(Due due) {
        ClassDesk desk = withInts();
        Desks.primary(desk, 0, 2, Desks.CALL, 2);
        Desks.primary(desk, 1, 1, Desks.CALL, 2);
        Desks.primary(desk, 2, 2, Desks.GET, 0, Desks.SWAP, 0, Desks.GET, 0);
        Desks.primary(desk, 3, 2, Desks.CALL, 4);
        Desks.primary(desk, 4, 1, Desks.GET, 0, Desks.CALL, 2);
        due.is("2 from 2", desk.call(0, 1, 2), 10 + 100);
        due.is("2 from 1: the second is the first", desk.call(1, 1, 2), 10 + 10);
        due.is("1 from 2: the first alone, and 2 from that", desk.call(3, 1, 2), 10 + 10 + 10);
    }

    @Says("8 BECOME a: the first argument changes its class to a")
    static void becomeChangesTheFirst(Due due) {
        ClassDesk desk = withInts();
        Desks.primary(desk, 0, 2, Desks.SAY, 5, Desks.BECOME, 3);
        Desks.call(due, desk, 5, 0, 1, 2);
        due.is("the first", desk.look(1, 0), 3);
        due.is("the second", desk.look(2, 0), 2);
        Desks.body(desk, 0, Desks.BECOME, 0);
        Desks.call(due, desk, 0, 0, 1, 2);
        due.is("class 0", desk.look(1, 0), 0);
    }

    @Says("8 BECOME a: the first argument changes its class to a")
    static void becomeIsSeenByTheStepsBehindIt(Due due) {
        ClassDesk desk = Desks.chain(2);
        desk.slot(1, 0, 1, 7);
        Desks.primary(desk, 0, 1, Desks.BECOME, 1, Desks.GET, 0, Desks.CALL, 1);
        desk.generic(1, 1);
        Desks.body(desk, 1, Desks.SAY, 100);
        desk.method(1, Desks.PRIMARY, 1, 0, 1);
        Desks.call(due, desk, 107, 0, 0, 0);
    }

    @Says("8 BECOME a: the first argument changes its class to a")
    static void becomeOfClass11(Due due) {
        ClassDesk desk = Desks.chain(12);
        Desks.primary(desk, 0, 1, Desks.BECOME, 11);
        Desks.call(due, desk, 0, 0, 0, 0);
        due.is("look(0, 0)", desk.look(0, 0), 11);
    }

    @Says("9 SWAP: the arguments are changed for the other from here on in this BODY, if there are two")
    static void swapFromHereOn(Due due) {
        ClassDesk desk = withInts();
        Desks.primary(desk, 0, 2, Desks.GET, 0, Desks.SWAP, 0, Desks.GET, 0, Desks.GET, 0);
        Desks.call(due, desk, 10 + 200, 0, 1, 2);
        desk.step(0, Desks.SWAP, 0);
        desk.step(0, Desks.GET, 0);
        due.is("SWAP twice", desk.call(0, 1, 2), 10 + 200 + 10);
        Desks.body(desk, 0, Desks.SWAP, 0, Desks.SAY, 7, Desks.PUT, 0, Desks.BECOME, 0);
        Desks.call(due, desk, 7, 0, 1, 2);
        due.is("PUT", desk.get(2, 0), 7);
        due.is("BECOME", desk.look(2, 0), 0);
        due.is("not PUT", desk.get(1, 0), 10);
        due.is("not BECOME", desk.look(1, 0), 1);
    }

    @Says("9 SWAP: the arguments are changed for the other from here on in this BODY, if there are two")
    static void swapIsSeenByACall(Due due) {
        ClassDesk desk = withInts();
        Desks.primary(desk, 0, 2, Desks.SWAP, 0, Desks.CALL, 1);
        Desks.primary(desk, 1, 2, Desks.GET, 0);
        Desks.call(due, desk, 100, 0, 1, 2);
        Desks.primary(desk, 1, 2, Desks.SWAP, 0, Desks.GET, 0);
        Desks.call(due, desk, 10, 0, 1, 2);
        Desks.primary(desk, 1, 1, Desks.GET, 0);
        Desks.call(due, desk, 100, 0, 1, 2);
    }

    @Says("9 SWAP: the arguments are changed for the other from here on in this BODY, if there are two")
    static void swapIsOfThisBodyAlone(Due due) {
        ClassDesk desk = withInts();
        Desks.primary(desk, 0, 2, Desks.NEXT, 0, Desks.CALL, 1, Desks.GET, 0);
        desk.method(0, Desks.PRIMARY, 1, 0, 0);
        Desks.body(desk, 2, Desks.SWAP, 0);
        desk.method(0, Desks.PRIMARY, 0, 0, 2);
        desk.method(0, Desks.BEFORE, 0, 0, 2);
        Desks.primary(desk, 1, 2, Desks.SWAP, 0);
        Desks.call(due, desk, 10, 0, 1, 2);
        // The same BODY begins again with the arguments as they were.
        Desks.body(desk, 0, Desks.SWAP, 0, Desks.GET, 0);
        Desks.call(due, desk, 100, 0, 1, 2);
        Desks.call(due, desk, 100, 0, 1, 2);
    }

    @Says("9 SWAP: the arguments are changed for the other from here on in this BODY, if there are two")
    static void swapWithOneChangesNothing(Due due) {
        ClassDesk desk = withInts();
        Desks.primary(desk, 0, 1, Desks.SWAP, 0, Desks.GET, 0);
        Desks.call(due, desk, 10, 0, 1, 2);
        Desks.primary(desk, 1, 2, Desks.CALL, 0);
        Desks.call(due, desk, 10, 1, 1, 2);
    }

    @Says("(NEXT has those of the beginning).")
    static void nextHasThoseOfTheBeginning(Due due) {
        ClassDesk desk = withInts();
        Desks.primary(desk, 0, 2, Desks.GET, 0);
        Desks.body(desk, 1, Desks.SWAP, 0, Desks.NEXT, 0);
        desk.method(0, Desks.PRIMARY, 1, 0, 1);
        due.is("a PRIMARY", desk.call(0, 1, 2), 10);
        desk.method(0, Desks.AROUND, 0, 0, 1);
        due.is("an AROUND and a PRIMARY", desk.call(0, 1, 2), 10);
        desk.method(0, Desks.AROUND, 1, 0, 1);
        due.is("two AROUNDS and a PRIMARY", desk.call(0, 1, 2), 10);
    }
}
