/** What the document's Terms say of the constants. */
@Says("Terms")
public final class TermsConstantsTest {
    public static void main(String[] args) {
        Sentences.run(TermsConstantsTest.class);
    }

    @Says("The constants: REFUSED = -1, NONE = -2, FULL = -3, CYCLE = -4, ORDER = -5")
    static void theRefusals(Due due) {
        due.is("REFUSED", ClassDesk.REFUSED, -1);
        due.is("NONE", ClassDesk.NONE, -2);
        due.is("FULL", ClassDesk.FULL, -3);
        due.is("CYCLE", ClassDesk.CYCLE, -4);
        due.is("ORDER", ClassDesk.ORDER, -5);
    }

    @Says("Refusals: a number is out of range; there is no such thing; there is no room; a class would be above itself; there would be no PRECEDENCE.")
    static void whatTheyAreFor(Due due) {
        ClassDesk desk = Desks.chain(3);
        due.is("a number is out of range", desk.define(12, 0, -1, -1), -1);
        due.is("there is no such thing", desk.make(3), -2);
        due.is("a class would be above itself", desk.define(1, 2, -1, -1), -4);
        due.is("there would be no PRECEDENCE", desk.define(3, 0, 1, -1), -5);
        for (int i = 3; i < 12; i++) {
            desk.make(0);
        }
        due.is("there is no room", desk.make(0), -3);
    }

    @Says("MISSING = -6, UNBOUND = -7, INAPPLICABLE = -8, ALONE = -9, LAST = -10, DEEP = -11, ERROR = 1L << 40")
    static void theErrors(Due due) {
        due.is("MISSING", ClassDesk.MISSING, -6);
        due.is("UNBOUND", ClassDesk.UNBOUND, -7);
        due.is("INAPPLICABLE", ClassDesk.INAPPLICABLE, -8);
        due.is("ALONE", ClassDesk.ALONE, -9);
        due.is("LAST", ClassDesk.LAST, -10);
        due.is("DEEP", ClassDesk.DEEP, -11);
        due.is("ERROR", ClassDesk.ERROR, 1099511627776L);
    }

    @Says("ERRORS of slots and calls: ERROR + one of these, or of the above.")
    static void errorAndOneOfThese(Due due) {
        ClassDesk desk = Desks.chain(1);
        due.is("REFUSED", desk.get(0, 6), 1099511627775L);
        due.is("NONE", desk.get(1, 0), 1099511627774L);
        due.is("MISSING", desk.get(0, 0), 1099511627770L);
        desk.slot(0, 0, 2, 0);
        due.is("UNBOUND", desk.get(0, 0), 1099511627769L);
        desk.generic(0, 1);
        due.is("INAPPLICABLE", desk.call(0, 0, 0), 1099511627768L);
        desk.method(0, Desks.BEFORE, 0, 0, 0);
        due.is("ALONE", desk.call(0, 0, 0), 1099511627767L);
        desk.method(0, Desks.PRIMARY, 0, 0, 0);
        desk.step(0, Desks.NEXT, 0);
        due.is("LAST", desk.call(0, 0, 0), 1099511627766L);
        Desks.primary(desk, 1, 1, Desks.CALL, 1);
        due.is("DEEP", desk.call(1, 0, 0), 1099511627765L);
    }
}
