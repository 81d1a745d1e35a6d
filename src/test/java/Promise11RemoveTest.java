/** Promise 11. */
@Says("Promise 11: remove")
public final class Promise11RemoveTest {
    public static void main(String[] args) {
        Sentences.run(Promise11RemoveTest.class);
    }

    @Says("METHOD m is removed: its GENERIC.")
    static void itsGeneric(Due due) {
        ClassDesk desk = Desks.chain(4);
        for (int g = 0; g <= 4; g++) {
            desk.generic(g, 1);
        }
        for (int m = 0; m <= 15; m++) {
            Desks.method(due, desk, m, m % 5, 0, m / 5, 0, 0);
        }
        for (int m = 15; m >= 0; m--) {
            due.is("remove(" + m + ")", desk.remove(m), m % 5);
            due.is("count(2)", desk.count(2), m);
        }
    }

    @Says("METHOD m is removed: its GENERIC.")
    static void itIsCalledNoMore(Due due) {
        ClassDesk desk = Desks.chain(2);
        Desks.primary(desk, 0, 1, Desks.SAY, 5);
        Desks.body(desk, 1, Desks.SAY, 6);
        desk.method(0, Desks.PRIMARY, 1, 0, 1);
        Desks.call(due, desk, 6, 0, 1, 0);
        due.is("remove(1)", desk.remove(1), 0);
        Desks.call(due, desk, 5, 0, 1, 0);
        due.is("remove(0)", desk.remove(0), 0);
        Desks.call(due, desk, Desks.INAPPLICABLE, 0, 1, 0);
        due.is("its PARAMETERS stay", desk.method(0, Desks.PRIMARY, 1, 0, 1), 0);
        Desks.call(due, desk, 6, 0, 1, 0);
    }

    @Says("NONE if there is none.")
    static void noneIfThereIsNone(Due due) {
        ClassDesk desk = Desks.chain(1);
        Desks.primary(desk, 0, 1);
        int[] none = {1, 15, 16, -1, Desks.LEAST, Desks.MOST};
        for (int m : none) {
            due.is("remove(" + m + ")", desk.remove(m), Desks.NONE);
        }
        due.is("count(2)", desk.count(2), 1);
        due.is("remove(0)", desk.remove(0), 0);
        due.is("a second time", desk.remove(0), Desks.NONE);
        Desks.leavesAll(due, "remove(4)", Desks.NONE, busy -> busy.remove(4));
        Desks.leavesAll(due, "remove(16)", Desks.NONE, busy -> busy.remove(16));
    }
}
