/** Promise 9. */
@Says("Promise 9: generic")
public final class Promise09GenericTest {
    public static void main(String[] args) {
        Sentences.run(Promise09GenericTest.class);
    }

    @Says("GENERIC g has n PARAMETERS (1 or 2) from now on")
    static void fromNowOn(Due due) {
        ClassDesk desk = Desks.chain(1);
        for (int g = 0; g <= 4; g++) {
            due.is("1 PARAMETER", desk.generic(g, 1), 0);
            due.is("y is not looked at", desk.call(g, 0, 9), Desks.INAPPLICABLE);
            due.is("2 PARAMETERS", desk.generic(g, 2), 0);
            due.is("y is looked at", desk.call(g, 0, 9), Desks.ERROR + Desks.NONE);
            due.is("1 PARAMETER again", desk.generic(g, 1), 0);
            due.is("y is not looked at", desk.call(g, 0, 9), Desks.INAPPLICABLE);
        }
    }

    @Says("and no METHODS")
    static void noMethodsFromNowOn(Due due) {
        ClassDesk desk = Desks.chain(1);
        Desks.primary(desk, 0, 1, Desks.SAY, 5);
        Desks.primary(desk, 4, 1, Desks.SAY, 6);
        due.is("generic(0, 1)", desk.generic(0, 1), 1);
        due.is("its METHOD is gone", desk.call(0, 0, 0), Desks.INAPPLICABLE);
        due.is("remove(0)", desk.remove(0), Desks.NONE);
        due.is("that of another stays", desk.call(4, 0, 0), 6);
        due.is("count(2)", desk.count(2), 1);
        due.is("its number is free", desk.method(0, 0, 0, 0, 0), 0);
        due.is("BODIES stay", desk.call(0, 0, 0), 5);
    }

    @Says("how many it had.")
    static void howManyItHad(Due due) {
        ClassDesk desk = Desks.chain(4);
        desk.generic(0, 2);
        desk.generic(1, 1);
        due.is("none", desk.generic(0, 2), 0);
        desk.method(1, 0, 0, 0, 0);
        for (int m = 1; m < 16; m++) {
            Desks.method(due, desk, m, 0, m % 4, m / 4, 0, 0);
        }
        due.is("15", desk.generic(0, 1), 15);
        due.is("none again", desk.generic(0, 1), 0);
        due.is("1", desk.generic(1, 2), 1);
        for (int m = 0; m < 16; m++) {
            Desks.method(due, desk, m, 0, m % 4, m / 4, 0, 0);
        }
        due.is("16", desk.generic(0, 2), 16);
        due.is("count(2)", desk.count(2), 0);
    }

    @Says("REFUSED if g is not 0..4")
    static void refusedIfGIsNot0To4(Due due) {
        ClassDesk desk = Desks.chain(1);
        for (int g : Desks.outside(0, 4)) {
            due.is("generic(" + g + ", 1)", desk.generic(g, 1), Desks.REFUSED);
        }
        due.is("the least", desk.generic(0, 1), 0);
        due.is("the greatest", desk.generic(4, 1), 0);
        Desks.leavesAll(due, "generic(5, 1)", Desks.REFUSED, busy -> busy.generic(5, 1));
    }

    @Says("or n not 1..2.")
    static void refusedIfNIsNot1Or2(Due due) {
        ClassDesk desk = Desks.chain(1);
        for (int n : Desks.outside(1, 2)) {
            due.is("generic(0, " + n + ")", desk.generic(0, n), Desks.REFUSED);
        }
        due.is("it has none", desk.call(0, 0, 0), Desks.ERROR + Desks.NONE);
        Desks.leavesAll(due, "generic(0, 0)", Desks.REFUSED, busy -> busy.generic(0, 0));
        Desks.leavesAll(due, "generic(0, 3)", Desks.REFUSED, busy -> busy.generic(0, 3));
    }
}
