/** What the document's Terms say of CLASSES and of their PRECEDENCE. */
@Says("Terms")
public final class TermsClassesTest {
    public static void main(String[] args) {
        Sentences.run(TermsClassesTest.class);
    }

    @Says("CLASSES 0..11")
    static void thereAreTwelveClassesAtMost(Due due) {
        ClassDesk desk = new ClassDesk();
        for (int c = 1; c <= 11; c++) {
            Desks.define(due, desk, 2, c, 0, -1, -1);
        }
        due.is("make(11)", desk.make(11), 0);
        Desks.define(due, desk, Desks.REFUSED, 12, 0, -1, -1);
        due.is("make(12)", desk.make(12), Desks.NONE);
        due.is("make(-1)", desk.make(-1), Desks.NONE);
        due.is("count(0)", desk.count(0), 12);
    }

    @Says("0 is there, without SUPERS")
    static void class0IsThereAndNothingAboveIt(Due due) {
        ClassDesk desk = new ClassDesk();
        Desks.rowIs(due, desk, 0, 0);
        due.is("make(0)", desk.make(0), 0);
        desk.define(1, 0, -1, -1);
        Desks.define(due, desk, Desks.REFUSED, 0, 1, -1, -1);
        Desks.rowIs(due, desk, 0, 0);
    }

    @Says("others are there once they are defined")
    static void othersAreThereOnceTheyAreDefined(Due due) {
        ClassDesk desk = new ClassDesk();
        for (int c = 1; c <= 11; c++) {
            due.is("make(" + c + ") before", desk.make(c), Desks.NONE);
            due.is("precedence(" + c + ", 0) before", desk.precedence(c, 0), Desks.NONE);
        }
        // The numbers need not come one after the other.
        Desks.define(due, desk, 2, 11, 0, -1, -1);
        Desks.define(due, desk, 3, 5, 11, -1, -1);
        due.is("make(5)", desk.make(5), 0);
        due.is("make(11)", desk.make(11), 1);
        due.is("make(6)", desk.make(6), Desks.NONE);
        due.is("make(10)", desk.make(10), Desks.NONE);
    }

    @Says("with 1 to 3 direct SUPERS in an order.")
    static void oneTwoOrThreeSupers(Due due) {
        ClassDesk desk = new ClassDesk();
        for (int c = 1; c <= 3; c++) {
            desk.define(c, 0, -1, -1);
        }
        Desks.define(due, desk, 3, 4, 2, -1, -1);
        Desks.rowIs(due, desk, 4, 4, 2, 0);
        Desks.define(due, desk, 4, 4, 3, 1, -1);
        Desks.rowIs(due, desk, 4, 4, 3, 1, 0);
        Desks.define(due, desk, 5, 4, 3, 1, 2);
        Desks.rowIs(due, desk, 4, 4, 3, 1, 2, 0);
        Desks.define(due, desk, 5, 4, 2, 3, 1);
        Desks.rowIs(due, desk, 4, 4, 2, 3, 1, 0);
        Desks.define(due, desk, Desks.REFUSED, 4, -1, -1, -1);
    }

    /** GENERIC 0 gives 1 for what is a SUBCLASS of d, and is INAPPLICABLE for others. */
    private static ClassDesk withMethodFor(int d) {
        ClassDesk desk = Desks.chain(4);
        desk.define(4, 0, -1, -1);
        desk.define(5, 4, 3, -1);
        desk.define(6, 4, 0, -1);
        desk.define(7, 6, 4, 3);
        for (int c = 4; c < 8; c++) {
            desk.make(c);
        }
        desk.generic(0, 1);
        Desks.body(desk, 0, Desks.SAY, 1);
        desk.method(0, Desks.PRIMARY, d, 0, 0);
        return desk;
    }

    @Says("c is a SUBCLASS of d if d is c")
    static void aClassIsASubclassOfItself(Due due) {
        Desks.call(due, withMethodFor(0), 1, 0, 0, 0);
        Desks.call(due, withMethodFor(2), 1, 0, 2, 0);
        Desks.call(due, withMethodFor(3), 1, 0, 3, 0);
    }

    @Says("or c has a direct SUPER that is a SUBCLASS of d.")
    static void aClassIsASubclassOfAllAboveItsSupers(Due due) {
        ClassDesk desk = withMethodFor(1);
        Desks.call(due, desk, 1, 0, 2, 0);
        Desks.call(due, desk, 1, 0, 3, 0);
        // By its second SUPER, and by its third.
        Desks.call(due, desk, 1, 0, 5, 0);
        Desks.call(due, desk, 1, 0, 7, 0);
        // Not what is above it, nor what is beside it.
        Desks.call(due, desk, Desks.INAPPLICABLE, 0, 0, 0);
        Desks.call(due, desk, Desks.INAPPLICABLE, 0, 4, 0);
        Desks.call(due, desk, Desks.INAPPLICABLE, 0, 6, 0);
    }

    @Says("The PRECEDENCE of c is a row of all classes of which it is a SUBCLASS")
    static void allAboveItStandInItOnce(Due due) {
        ClassDesk desk = new ClassDesk();
        desk.define(1, 0, -1, -1);
        desk.define(2, 1, -1, -1);
        desk.define(3, 1, -1, -1);
        desk.define(4, 0, -1, -1);
        // 1 and 0 are reached by two ways.
        Desks.define(due, desk, 5, 5, 2, 3, -1);
        Desks.rowIs(due, desk, 5, 5, 2, 3, 1, 0);
        Desks.rowIs(due, desk, 4, 4, 0);
    }

    @Says("The PRECEDENCE of c is a row of all classes of which it is a SUBCLASS")
    static void aRowOfAllTwelve(Due due) {
        ClassDesk desk = new ClassDesk();
        for (int c = 1; c <= 11; c++) {
            Desks.define(due, desk, c + 1, c, c - 1, -1, -1);
        }
        Desks.rowIs(due, desk, 11, 11, 10, 9, 8, 7, 6, 5, 4, 3, 2, 1, 0);
    }

    @Says("in it each class stands before its direct SUPERS")
    static void eachStandsBeforeItsSupers(Due due) {
        ClassDesk desk = new ClassDesk();
        desk.define(1, 0, -1, -1);
        desk.define(2, 1, -1, -1);
        // 1 is a SUPER of 3 and of 2: it stands behind both.
        Desks.define(due, desk, 4, 3, 2, 1, -1);
        Desks.rowIs(due, desk, 3, 3, 2, 1, 0);
        Desks.define(due, desk, 3, 4, 1, 0, -1);
        Desks.rowIs(due, desk, 4, 4, 1, 0);
        Desks.define(due, desk, Desks.ORDER, 5, 1, 2, -1);
        Desks.define(due, desk, Desks.ORDER, 5, 0, 2, -1);
    }

    @Says("and the direct SUPERS of a class in their order.")
    static void theSupersStandInTheirOrder(Due due) {
        ClassDesk desk = new ClassDesk();
        for (int c = 1; c <= 3; c++) {
            desk.define(c, 0, -1, -1);
        }
        desk.define(4, 3, 1, 2);
        Desks.rowIs(due, desk, 4, 4, 3, 1, 2, 0);
        // The order of a class above counts as well: 1 before 2, and 3 before both.
        Desks.define(due, desk, Desks.ORDER, 5, 4, 2, 1);
        Desks.define(due, desk, Desks.ORDER, 5, 4, 2, 3);
        Desks.define(due, desk, Desks.ORDER, 5, 4, 1, 3);
        Desks.define(due, desk, 6, 5, 4, 3, 2);
        Desks.rowIs(due, desk, 5, 5, 4, 3, 1, 2, 0);
    }

    @Says("From the front: of the classes that are not in it yet, and before which no other one that is not in it yet must stand, the next one is that which has a direct SUBCLASS furthest back in the row so far")
    static void theOneWithASubclassFurthestBackIsNext(Due due) {
        ClassDesk desk = new ClassDesk();
        desk.define(1, 0, -1, -1);
        desk.define(2, 0, -1, -1);
        desk.define(3, 1, -1, -1);
        desk.define(4, 2, -1, -1);
        // Behind 5 and 3 both 1 (below it 3) and 4 (below it 5) may follow.
        desk.define(5, 3, 4, -1);
        Desks.rowIs(due, desk, 5, 5, 3, 1, 4, 2, 0);
        desk.define(5, 4, 3, -1);
        Desks.rowIs(due, desk, 5, 5, 4, 2, 3, 1, 0);
    }

    @Says("before which no other one that is not in it yet must stand")
    static void oneThatMustWaitIsNotNext(Due due) {
        ClassDesk desk = new ClassDesk();
        for (int c = 1; c <= 3; c++) {
            desk.define(c, 0, -1, -1);
        }
        desk.define(5, 1, 2, -1);
        desk.define(6, 5, 3, -1);
        Desks.rowIs(due, desk, 6, 6, 5, 1, 2, 3, 0);
        // Behind 8, 6, 5 and 1 the SUPER 2 of 5 would be next, but by 7 it must wait for 3.
        desk.define(7, 3, 2, -1);
        desk.define(8, 6, 7, -1);
        Desks.rowIs(due, desk, 8, 8, 6, 5, 1, 7, 3, 2, 0);
    }

    @Says("that which has a direct SUBCLASS furthest back in the row so far")
    static void theFurthestOfItsSubclassesCounts(Due due) {
        ClassDesk desk = new ClassDesk();
        desk.define(1, 0, -1, -1);
        desk.define(2, 0, -1, -1);
        desk.define(5, 1, -1, -1);
        desk.define(4, 5, 2, -1);
        // Behind 6, 4 and 5 both 1 (below it 6 and 5) and 2 (below it 4) may follow: 5 is further back than 4.
        desk.define(6, 4, 1, -1);
        Desks.rowIs(due, desk, 6, 6, 4, 5, 1, 2, 0);
    }

    @Says("that which has a direct SUBCLASS furthest back in the row so far")
    static void theOrderOfTheSupersDoesNotDecideIt(Due due) {
        ClassDesk desk = new ClassDesk();
        desk.define(1, 0, -1, -1);
        desk.define(2, 1, -1, -1);
        desk.define(3, 0, -1, -1);
        desk.define(4, 3, -1, -1);
        // Behind 5, 2 and 4 the SUPER 1 of 5 itself may follow, but 3 has 4 below it.
        desk.define(5, 2, 4, 1);
        Desks.rowIs(due, desk, 5, 5, 2, 4, 3, 1, 0);
        desk.define(6, 1, 3, -1);
        desk.define(7, 6, 1, -1);
        Desks.rowIs(due, desk, 7, 7, 6, 1, 3, 0);
    }

    @Says("(the first one is c)")
    static void theFirstOneIsTheClassItself(Due due) {
        ClassDesk desk = Desks.chain(12);
        for (int c = 0; c < 12; c++) {
            due.is("precedence(" + c + ", 0)", desk.precedence(c, 0), c);
        }
    }

    @Says("If there are none left, but classes are, there is no PRECEDENCE.")
    static void noneLeftButClassesAre(Due due) {
        ClassDesk desk = new ClassDesk();
        desk.define(1, 0, -1, -1);
        desk.define(2, 0, -1, -1);
        desk.define(3, 1, 2, -1);
        desk.define(4, 2, 1, -1);
        Desks.define(due, desk, Desks.ORDER, 5, 3, 4, -1);
        Desks.define(due, desk, Desks.ORDER, 5, 4, 3, -1);
        Desks.rowIs(due, desk, 5);
        Desks.define(due, desk, 5, 5, 3, -1, -1);
    }
}
