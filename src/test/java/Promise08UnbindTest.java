/** Promise 8. */
@Says("Promise 8: unbind")
public final class Promise08UnbindTest {
    public static void main(String[] args) {
        Sentences.run(Promise08UnbindTest.class);
    }

    @Says("The VALUE of a LOCAL SLOT of that name is no more: 1")
    static void itsValueIsNoMore(Due due) {
        ClassDesk desk = new ClassDesk();
        desk.slot(0, 0, 1, 5);
        desk.slot(0, 5, 1, 6);
        desk.make(0);
        desk.make(0);
        due.is("unbind(0, 0)", desk.unbind(0, 0), 1);
        due.is("get(0, 0)", desk.get(0, 0), Desks.UNBOUND);
        due.is("its VALUES", desk.look(0, 2), 32);
        due.is("its LAYOUT", desk.look(0, 1), 33);
        due.is("unbind(0, 5)", desk.unbind(0, 5), 1);
        due.is("its VALUES", desk.look(0, 2), 0);
        due.is("another's", desk.look(1, 2), 33);
        due.is("a LAYOUT is not changed by it", desk.count(7), 0);
    }

    @Says("The VALUE of a LOCAL SLOT of that name is no more: 1")
    static void aValueThatCameByBeingTouched(Due due) {
        ClassDesk desk = Desks.chain(1);
        desk.slot(0, 0, 1, 5);
        due.is("unbind(0, 0)", desk.unbind(0, 0), 1);
        due.is("its LAYOUT", desk.look(0, 1), 1);
        due.is("its VALUES", desk.look(0, 2), 0);
        due.is("count(7)", desk.count(7), 1);
    }

    @Says("0 if it had none")
    static void zeroIfItHadNone(Due due) {
        ClassDesk desk = new ClassDesk();
        desk.slot(0, 0, 1, 5);
        desk.slot(0, 1, 2, 0);
        desk.make(0);
        due.is("without INITIAL", desk.unbind(0, 1), 0);
        desk.unbind(0, 0);
        due.is("a second time", desk.unbind(0, 0), 0);
        desk.put(0, 0, 0);
        due.is("behind put", desk.unbind(0, 0), 1);
        due.is("a second time", desk.unbind(0, 0), 0);
    }

    @Says("ERROR + NONE, REFUSED or MISSING")
    static void noneIfThereIsNoSuchInstance(Due due) {
        ClassDesk desk = Desks.chain(2);
        int[] instances = {2, 11, 12, 16, -1, Desks.LEAST, Desks.MOST};
        for (int i : instances) {
            due.is("unbind(" + i + ", 0)", desk.unbind(i, 0), Desks.ERROR + Desks.NONE);
            due.is("unbind(" + i + ", 6)", desk.unbind(i, 6), Desks.ERROR + Desks.NONE);
        }
        Desks.leavesAll(due, "unbind(3, 0)", Desks.ERROR + Desks.NONE, busy -> busy.unbind(3, 0));
    }

    @Says("ERROR + NONE, REFUSED or MISSING")
    static void refusedIfNameIsNot0To5(Due due) {
        ClassDesk desk = Desks.chain(12);
        for (int name : Desks.outside(0, 5)) {
            due.is("unbind(0, " + name + ")", desk.unbind(0, name), Desks.ERROR + Desks.REFUSED);
            due.is("unbind(11, " + name + ")", desk.unbind(11, name), Desks.ERROR + Desks.REFUSED);
        }
        Desks.leavesAll(due, "unbind(1, 6)", Desks.ERROR + Desks.REFUSED, busy -> busy.unbind(1, 6));
        Desks.leavesAll(due, "unbind(1, -1)", Desks.ERROR + Desks.REFUSED, busy -> busy.unbind(1, -1));
    }

    @Says("ERROR + NONE, REFUSED or MISSING")
    static void missingIfItsClassHasNoSuchSlot(Due due) {
        ClassDesk desk = Desks.chain(2);
        desk.slot(1, 0, 1, 1);
        for (int name = 0; name <= 5; name++) {
            due.is("unbind(0, " + name + ")", desk.unbind(0, name), Desks.MISSING);
        }
        due.is("unbind(1, 0)", desk.unbind(1, 0), 1);
        desk.slot(1, 0, 0, 0);
        due.is("it had it", desk.unbind(1, 0), Desks.MISSING);
        due.is("it was TOUCHED", desk.look(1, 1), 0);
    }

    @Says("(SHARED: MISSING).")
    static void missingIfShared(Due due) {
        ClassDesk desk = Desks.chain(1);
        desk.slot(0, 0, 3, 5);
        due.is("unbind(0, 0)", desk.unbind(0, 0), Desks.MISSING);
        due.is("the SHARED int stays", desk.get(0, 0), 5);
        desk.slot(0, 1, 1, 5);
        desk.get(0, 1);
        desk.slot(0, 1, 3, 6);
        due.is("LOCAL before", desk.unbind(0, 1), Desks.MISSING);
        due.is("its VALUE was lost by being TOUCHED", desk.look(0, 2), 0);
    }
}
