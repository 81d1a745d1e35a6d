/** Promise 2. */
@Says("Promise 2: define")
public final class Promise02DefineTest {
    public static void main(String[] args) {
        Sentences.run(Promise02DefineTest.class);
    }

    /** Classes 0, and 1, 2, 3 directly below it. */
    private static ClassDesk three() {
        ClassDesk desk = new ClassDesk();
        for (int c = 1; c <= 3; c++) {
            desk.define(c, 0, -1, -1);
        }
        return desk;
    }

    @Says("Class c is defined, or defined anew, with direct SUPERS s, t, u")
    static void definedAndDefinedAnew(Due due) {
        ClassDesk desk = three();
        Desks.define(due, desk, 3, 4, 1, -1, -1);
        Desks.define(due, desk, 4, 5, 4, -1, -1);
        Desks.rowIs(due, desk, 5, 5, 4, 1, 0);
        Desks.define(due, desk, 4, 4, 2, 3, -1);
        Desks.rowIs(due, desk, 4, 4, 2, 3, 0);
        // Those below it follow.
        Desks.rowIs(due, desk, 5, 5, 4, 2, 3, 0);
        due.is("count(0)", desk.count(0), 6);
    }

    @Says("Class c is defined, or defined anew, with direct SUPERS s, t, u")
    static void definedAnewItLeavesWhatWasAboveIt(Due due) {
        ClassDesk desk = Desks.chain(5);
        desk.generic(0, 1);
        desk.slot(1, 0, 3, 5);
        desk.slot(2, 1, 3, 6);
        for (int c = 1; c <= 3; c++) {
            desk.method(0, Desks.PRIMARY, c, 0, 0);
        }
        Desks.define(due, desk, 2, 4, 0, -1, -1);
        Desks.call(due, desk, Desks.INAPPLICABLE, 0, 4, 0);
        due.is("has(4, 0)", desk.has(4, 0), -1);
        due.is("has(4, 1)", desk.has(4, 1), -1);
        due.is("1 may go below it", desk.define(1, 4, -1, -1), 3);
    }

    @Says("Class c is defined, or defined anew, with direct SUPERS s, t, u")
    static void theLeastAndTheGreatestClass(Due due) {
        ClassDesk desk = new ClassDesk();
        Desks.define(due, desk, 2, 1, 0, -1, -1);
        Desks.define(due, desk, 2, 11, 0, -1, -1);
        Desks.define(due, desk, 4, 10, 11, 1, 0);
        Desks.rowIs(due, desk, 10, 10, 11, 1, 0);
        Desks.define(due, desk, 4, 9, 1, 11, -1);
        Desks.rowIs(due, desk, 9, 9, 1, 11, 0);
    }

    @Says("(-1 for t or u: there is none, nor behind it)")
    static void minus1IsNone(Due due) {
        ClassDesk desk = three();
        Desks.define(due, desk, 3, 4, 1, -1, -1);
        Desks.rowIs(due, desk, 4, 4, 1, 0);
        Desks.define(due, desk, 4, 4, 1, 2, -1);
        Desks.rowIs(due, desk, 4, 4, 1, 2, 0);
    }

    @Says("nor behind it")
    static void behindMinus1ThereIsNone(Due due) {
        ClassDesk desk = three();
        Desks.define(due, desk, 3, 4, 1, -1, 2);
        Desks.rowIs(due, desk, 4, 4, 1, 0);
        due.is("the same as s", desk.define(4, 1, -1, 1), 3);
        due.is("a class that is not there", desk.define(4, 1, -1, 11), 3);
        due.is("c itself", desk.define(4, 1, -1, 4), 3);
        desk.define(5, 4, -1, -1);
        due.is("a SUBCLASS of c", desk.define(4, 1, -1, 5), 3);
        due.is("one that would leave no PRECEDENCE", desk.define(4, 0, -1, 1), 2);
    }

    @Says("how many classes its PRECEDENCE has.")
    static void howManyItsPrecedenceHas(Due due) {
        ClassDesk desk = new ClassDesk();
        for (int c = 1; c <= 11; c++) {
            Desks.define(due, desk, c + 1, c, c - 1, -1, -1);
        }
        Desks.define(due, desk, 2, 11, 0, -1, -1);
        // What is reached twice counts once.
        Desks.define(due, desk, 6, 11, 4, 2, 0);
    }

    @Says("Its direct SLOTS stay.")
    static void itsSlotsStay(Due due) {
        ClassDesk desk = three();
        desk.slot(1, 0, 1, 10);
        desk.slot(1, 1, 2, 0);
        desk.slot(1, 5, 3, 15);
        desk.slot(2, 0, 1, 20);
        Desks.define(due, desk, 4, 1, 2, 3, -1);
        for (int name = 0; name <= 5; name++) {
            due.is("has(1, " + name + ")", desk.has(1, name), name < 2 || name == 5 ? 1 : -1);
        }
        desk.make(1);
        due.is("its INITIAL", desk.get(0, 0), 10);
        due.is("without", desk.get(0, 1), Desks.UNBOUND);
        due.is("SHARED", desk.get(0, 5), 15);
    }

    @Says("REFUSED if c is not 1..11")
    static void refusedIfCIsNot1To11(Due due) {
        ClassDesk desk = three();
        for (int c : Desks.outside(1, 11)) {
            Desks.define(due, desk, Desks.REFUSED, c, 1, -1, -1);
        }
        due.is("count(0)", desk.count(0), 4);
    }

    @Says("s not 0..11")
    static void refusedIfSIsNot0To11(Due due) {
        ClassDesk desk = three();
        for (int s : Desks.outside(0, 11)) {
            Desks.define(due, desk, Desks.REFUSED, 4, s, -1, -1);
            Desks.define(due, desk, Desks.REFUSED, 4, s, 1, -1);
        }
        due.is("count(0)", desk.count(0), 4);
    }

    @Says("t or u not -1..11")
    static void refusedIfTOrUIsNotMinus1To11(Due due) {
        ClassDesk desk = three();
        for (int n : Desks.outside(-1, 11)) {
            Desks.define(due, desk, Desks.REFUSED, 4, 1, n, -1);
            Desks.define(due, desk, Desks.REFUSED, 4, 1, n, 2);
            Desks.define(due, desk, Desks.REFUSED, 4, 1, 2, n);
            // Its range is looked at behind -1, too.
            Desks.define(due, desk, Desks.REFUSED, 4, 1, -1, n);
        }
        due.is("count(0)", desk.count(0), 4);
    }

    @Says("or two are the same")
    static void refusedIfTwoAreTheSame(Due due) {
        ClassDesk desk = three();
        Desks.define(due, desk, Desks.REFUSED, 4, 1, 1, -1);
        Desks.define(due, desk, Desks.REFUSED, 4, 1, 1, 2);
        Desks.define(due, desk, Desks.REFUSED, 4, 1, 2, 1);
        Desks.define(due, desk, Desks.REFUSED, 4, 2, 1, 1);
        Desks.define(due, desk, Desks.REFUSED, 4, 1, 1, 1);
        Desks.define(due, desk, Desks.REFUSED, 4, 0, 0, -1);
        // -1 twice is none twice.
        Desks.define(due, desk, 3, 4, 1, -1, -1);
    }

    @Says("REFUSED if c is not 1..11, s not 0..11, t or u not -1..11, or two are the same; NONE if one is not there (c itself may be named)")
    static void refusedBeforeNone(Due due) {
        ClassDesk desk = three();
        Desks.define(due, desk, Desks.REFUSED, 0, 9, -1, -1);
        Desks.define(due, desk, Desks.REFUSED, 4, 9, 12, -1);
        Desks.define(due, desk, Desks.REFUSED, 4, 9, 8, 12);
        Desks.define(due, desk, Desks.REFUSED, 4, 9, 9, -1);
        Desks.define(due, desk, Desks.REFUSED, 4, 4, 4, -1);
    }

    @Says("NONE if one is not there (c itself may be named)")
    static void noneIfOneIsNotThere(Due due) {
        ClassDesk desk = three();
        Desks.define(due, desk, Desks.NONE, 4, 11, -1, -1);
        Desks.define(due, desk, Desks.NONE, 4, 1, 11, -1);
        Desks.define(due, desk, Desks.NONE, 4, 1, 2, 11);
        Desks.define(due, desk, Desks.NONE, 1, 11, -1, -1);
        due.is("count(0)", desk.count(0), 4);
        due.is("make(4)", desk.make(4), Desks.NONE);
    }

    @Says("(c itself may be named)")
    static void cItselfIsNotNoneButCycle(Due due) {
        ClassDesk desk = three();
        due.is("one that is not there yet", desk.define(4, 4, -1, -1), Desks.CYCLE);
        due.is("beside another", desk.define(4, 1, 4, -1), Desks.CYCLE);
        due.is("beside two", desk.define(4, 1, 2, 4), Desks.CYCLE);
        due.is("beside one that is not there", desk.define(4, 4, 9, -1), Desks.NONE);
        due.is("one that is there", desk.define(1, 1, -1, -1), Desks.CYCLE);
    }

    @Says("CYCLE if one is a SUBCLASS of c, as it is, or c")
    static void cycleIfOneIsASubclassOfC(Due due) {
        ClassDesk desk = three();
        desk.define(4, 3, 1, -1);
        desk.define(5, 4, -1, -1);
        due.is("directly below it", desk.define(1, 4, -1, -1), Desks.CYCLE);
        due.is("further below it", desk.define(1, 5, -1, -1), Desks.CYCLE);
        due.is("as t", desk.define(1, 2, 5, -1), Desks.CYCLE);
        due.is("as u", desk.define(1, 3, 2, 5), Desks.CYCLE);
        due.is("another one may be", desk.define(2, 5, -1, -1), 6);
        Desks.rowIs(due, desk, 1, 1, 0);
    }

    @Says("as it is, or c")
    static void subclassesAsTheyAreBeforeIt(Due due) {
        ClassDesk desk = three();
        desk.define(2, 1, -1, -1);
        due.is("2 is below 1", desk.define(1, 2, -1, -1), Desks.CYCLE);
        desk.define(2, 0, -1, -1);
        due.is("2 is below 1 no more", desk.define(1, 2, -1, -1), 3);
        due.is("1 is below 2 now", desk.define(2, 1, -1, -1), Desks.CYCLE);
    }

    @Says("NONE if one is not there (c itself may be named); CYCLE if one is a SUBCLASS of c, as it is, or c; ORDER if it, or a SUBCLASS of it, would have no PRECEDENCE.")
    static void noneBeforeCycleBeforeOrder(Due due) {
        ClassDesk desk = three();
        desk.define(4, 1, -1, -1);
        due.is("below it, and not there", desk.define(1, 4, 9, -1), Desks.NONE);
        due.is("no PRECEDENCE, and not there", desk.define(5, 0, 1, 9), Desks.NONE);
        due.is("no PRECEDENCE, and below it", desk.define(1, 0, 2, 4), Desks.CYCLE);
        due.is("no PRECEDENCE", desk.define(1, 0, 2, 3), Desks.ORDER);
    }

    @Says("ORDER if it, or a SUBCLASS of it, would have no PRECEDENCE.")
    static void orderIfItWouldHaveNoPrecedence(Due due) {
        ClassDesk desk = three();
        desk.define(4, 1, 2, -1);
        due.is("0 before what is below it", desk.define(5, 0, 1, -1), Desks.ORDER);
        due.is("1 before 4", desk.define(5, 1, 4, -1), Desks.ORDER);
        due.is("4 before 2 before 1", desk.define(5, 4, 2, 1), Desks.ORDER);
        due.is("4 before 1 before 2", desk.define(5, 4, 1, 2), 5);
        due.is("a class that was there", desk.define(5, 2, 1, 4), Desks.ORDER);
        Desks.rowIs(due, desk, 5, 5, 4, 1, 2, 0);
    }

    @Says("or a SUBCLASS of it, would have no PRECEDENCE.")
    static void orderIfASubclassWouldHaveNone(Due due) {
        ClassDesk desk = three();
        desk.define(4, 1, 2, -1);
        due.is("2 is well, 4 directly below it would have none", desk.define(2, 1, -1, -1), Desks.ORDER);
        Desks.rowIs(due, desk, 2, 2, 0);
        desk.define(5, 3, -1, -1);
        desk.define(6, 5, -1, -1);
        desk.define(7, 4, 6, -1);
        Desks.rowIs(due, desk, 7, 7, 4, 1, 2, 6, 5, 3, 0);
        due.is("3, 5, 6 are well, 7 below them would have none", desk.define(3, 2, 1, -1), Desks.ORDER);
        Desks.rowIs(due, desk, 3, 3, 0);
        Desks.rowIs(due, desk, 6, 6, 5, 3, 0);
        Desks.rowIs(due, desk, 7, 7, 4, 1, 2, 6, 5, 3, 0);
        due.is("in the order of 4 all are well", desk.define(3, 1, 2, -1), 4);
        Desks.rowIs(due, desk, 7, 7, 4, 6, 5, 3, 1, 2, 0);
    }

    @Says("REFUSED if c is not 1..11")
    static void refusedLeavesAll(Due due) {
        Desks.leavesAll(due, "define(0, 1, -1, -1)", Desks.REFUSED, desk -> desk.define(0, 1, -1, -1));
        Desks.leavesAll(due, "define(12, 1, -1, -1)", Desks.REFUSED, desk -> desk.define(12, 1, -1, -1));
        Desks.leavesAll(due, "define(3, 2, 2, -1)", Desks.REFUSED, desk -> desk.define(3, 2, 2, -1));
        Desks.leavesAll(due, "define(3, 2, 12, -1)", Desks.REFUSED, desk -> desk.define(3, 2, 12, -1));
    }

    @Says("NONE if one is not there")
    static void noneLeavesAll(Due due) {
        Desks.leavesAll(due, "define(3, 2, 9, -1)", Desks.NONE, desk -> desk.define(3, 2, 9, -1));
        Desks.leavesAll(due, "define(4, 9, -1, -1)", Desks.NONE, desk -> desk.define(4, 9, -1, -1));
    }

    @Says("CYCLE if one is a SUBCLASS of c")
    static void cycleLeavesAll(Due due) {
        Desks.leavesAll(due, "define(1, 2, 3, -1)", Desks.CYCLE, desk -> desk.define(1, 2, 3, -1));
        Desks.leavesAll(due, "define(4, 4, -1, -1)", Desks.CYCLE, desk -> desk.define(4, 4, -1, -1));
    }

    @Says("ORDER if it, or a SUBCLASS of it, would have no PRECEDENCE.")
    static void orderLeavesAll(Due due) {
        Desks.leavesAll(due, "define(4, 0, 1, -1)", Desks.ORDER, desk -> desk.define(4, 0, 1, -1));
        Desks.leavesAll(due, "define(2, 1, -1, -1)", Desks.ORDER, desk -> desk.define(2, 1, -1, -1));
    }

    /** Refused SUPERS must not be seen when a class below is defined later, however many there were. */
    @Says("ORDER if it, or a SUBCLASS of it, would have no PRECEDENCE.")
    static void orderLeavesTheSupersThatWere(Due due) {
        ClassDesk desk = three();
        desk.define(4, 1, 2, 3);
        desk.define(5, 1, 2, -1);
        desk.define(6, 1, -1, -1);
        for (int c = 4; c <= 6; c++) {
            Desks.define(due, desk, Desks.ORDER, c, 0, 3, -1);
            Desks.define(due, desk, Desks.ORDER, c, 0, 3, 2);
        }
        Desks.define(due, desk, 6, 7, 4, -1, -1);
        Desks.rowIs(due, desk, 7, 7, 4, 1, 2, 3, 0);
        Desks.define(due, desk, 5, 7, 5, -1, -1);
        Desks.rowIs(due, desk, 7, 7, 5, 1, 2, 0);
        Desks.define(due, desk, 4, 7, 6, -1, -1);
        Desks.rowIs(due, desk, 7, 7, 6, 1, 0);
        Desks.define(due, desk, Desks.ORDER, 8, 0, 1, -1);
        due.is("one that was not there is not there", desk.define(7, 8, -1, -1), Desks.NONE);
    }
}
