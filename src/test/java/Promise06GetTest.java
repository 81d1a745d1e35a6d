/** Promise 6. */
@Says("Promise 6: get")
public final class Promise06GetTest {
    public static void main(String[] args) {
        Sentences.run(Promise06GetTest.class);
    }

    @Says("The SLOT of a name of INSTANCE i (which is TOUCHED): its VALUE, or the SHARED int")
    static void itsValueOrTheSharedInt(Due due) {
        ClassDesk desk = Desks.chain(1);
        desk.slot(0, 0, 1, 5);
        desk.slot(0, 5, 3, 6);
        desk.make(0);
        due.is("its VALUE", desk.get(1, 0), 5);
        due.is("the SHARED int", desk.get(1, 5), 6);
        int[] ints = {0, -1, -2, -6, -7, Desks.LEAST, Desks.MOST};
        for (int v : ints) {
            desk.put(1, 0, v);
            desk.put(1, 5, v);
            due.is("its VALUE", desk.get(1, 0), v);
            due.is("the SHARED int", desk.get(1, 5), v);
        }
    }

    @Says("(which is TOUCHED)")
    static void itIsTouched(Due due) {
        ClassDesk desk = Desks.chain(2);
        desk.slot(1, 4, 1, 5);
        due.is("get(1, 4)", desk.get(1, 4), 5);
        due.is("its LAYOUT", desk.look(1, 1), 16);
        due.is("count(7)", desk.count(7), 1);
        due.is("not the other", desk.look(0, 1), 0);
    }

    @Says("ERROR + NONE")
    static void noneIfThereIsNoSuchInstance(Due due) {
        ClassDesk desk = Desks.chain(2);
        desk.slot(0, 0, 3, 1);
        int[] instances = {2, 11, 12, 16, -1, Desks.LEAST, Desks.MOST};
        for (int i : instances) {
            due.is("get(" + i + ", 0)", desk.get(i, 0), Desks.ERROR + Desks.NONE);
        }
        Desks.leavesAll(due, "get(3, 0)", Desks.ERROR + Desks.NONE, busy -> busy.get(3, 0));
    }

    @Says("REFUSED (name not 0..5)")
    static void refusedIfNameIsNot0To5(Due due) {
        ClassDesk desk = Desks.chain(12);
        for (int name : Desks.outside(0, 5)) {
            due.is("get(0, " + name + ")", desk.get(0, name), Desks.ERROR + Desks.REFUSED);
            due.is("get(11, " + name + ")", desk.get(11, name), Desks.ERROR + Desks.REFUSED);
        }
        Desks.leavesAll(due, "get(1, 6)", Desks.ERROR + Desks.REFUSED, busy -> busy.get(1, 6));
        Desks.leavesAll(due, "get(1, -1)", Desks.ERROR + Desks.REFUSED, busy -> busy.get(1, -1));
    }

    @Says("ERROR + NONE, REFUSED (name not 0..5)")
    static void noneBeforeRefused(Due due) {
        due.is("get(0, 6)", new ClassDesk().get(0, 6), Desks.ERROR + Desks.NONE);
    }

    @Says("MISSING")
    static void missingIfItsClassHasNoSuchSlot(Due due) {
        ClassDesk desk = Desks.chain(2);
        for (int name = 0; name <= 5; name++) {
            due.is("get(0, " + name + ")", desk.get(0, name), Desks.MISSING);
        }
        desk.slot(1, 0, 1, 1);
        due.is("one below has it", desk.get(0, 0), Desks.MISSING);
        desk.get(1, 0);
        desk.slot(1, 0, 0, 0);
        due.is("it had it", desk.get(1, 0), Desks.MISSING);
        due.is("it was TOUCHED", desk.look(1, 1), 0);
    }

    @Says("UNBOUND.")
    static void unboundIfItHasNoValue(Due due) {
        ClassDesk desk = new ClassDesk();
        desk.slot(0, 0, 2, 1);
        desk.slot(0, 1, 1, 1);
        desk.make(0);
        due.is("without INITIAL", desk.get(0, 0), Desks.UNBOUND);
        desk.unbind(0, 1);
        due.is("behind unbind", desk.get(0, 1), Desks.UNBOUND);
        desk.put(0, 0, 0);
        due.is("behind put", desk.get(0, 0), 0);
        // A SHARED int is always there.
        desk.slot(0, 1, 3, 4);
        due.is("SHARED", desk.get(0, 1), 4);
    }
}
