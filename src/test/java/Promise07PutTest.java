/** Promise 7. */
@Says("Promise 7: put")
public final class Promise07PutTest {
    public static void main(String[] args) {
        Sentences.run(Promise07PutTest.class);
    }

    @Says("That SLOT gets v: 1.")
    static void aLocalSlotGetsIt(Due due) {
        ClassDesk desk = new ClassDesk();
        desk.slot(0, 0, 1, 5);
        desk.slot(0, 5, 2, 0);
        desk.make(0);
        desk.make(0);
        int[] ints = {0, -1, Desks.LEAST, Desks.MOST};
        for (int v : ints) {
            due.is("put(0, 0, " + v + ")", desk.put(0, 0, v), 1);
            due.is("get(0, 0)", desk.get(0, 0), v);
            due.is("without a VALUE", desk.put(0, 5, v), 1);
            due.is("get(0, 5)", desk.get(0, 5), v);
            desk.unbind(0, 5);
        }
        due.is("another's", desk.get(1, 0), 5);
        due.is("another's", desk.get(1, 5), Desks.UNBOUND);
        desk.make(0);
        due.is("the INITIAL is as it was", desk.get(2, 0), 5);
    }

    @Says("That SLOT gets v: 1.")
    static void aSharedSlotGetsItForAll(Due due) {
        ClassDesk desk = Desks.chain(3);
        desk.slot(0, 0, 3, 5);
        desk.slot(2, 0, 3, 6);
        due.is("put(1, 0, 7)", desk.put(1, 0, 7), 1);
        due.is("that of class 0", desk.get(0, 0), 7);
        due.is("not that of class 2", desk.get(2, 0), 6);
        due.is("no VALUE", desk.look(1, 2), 0);
        due.is("put(2, 0, 8)", desk.put(2, 0, 8), 1);
        due.is("that of class 0 stays", desk.get(0, 0), 7);
    }

    @Says("That SLOT gets v: 1.")
    static void itIsTouchedFirst(Due due) {
        ClassDesk desk = Desks.chain(2);
        desk.slot(1, 3, 1, 5);
        due.is("put(1, 3, 6)", desk.put(1, 3, 6), 1);
        due.is("its LAYOUT", desk.look(1, 1), 8);
        due.is("count(7)", desk.count(7), 1);
        due.is("get(1, 3)", desk.get(1, 3), 6);
        due.is("count(7)", desk.count(7), 1);
    }

    @Says("ERROR + NONE, REFUSED or MISSING.")
    static void noneIfThereIsNoSuchInstance(Due due) {
        ClassDesk desk = Desks.chain(2);
        desk.slot(0, 0, 3, 1);
        int[] instances = {2, 11, 12, 16, -1, Desks.LEAST, Desks.MOST};
        for (int i : instances) {
            due.is("put(" + i + ", 0, 5)", desk.put(i, 0, 5), Desks.ERROR + Desks.NONE);
            due.is("put(" + i + ", 6, 5)", desk.put(i, 6, 5), Desks.ERROR + Desks.NONE);
        }
        due.is("get(0, 0)", desk.get(0, 0), 1);
        Desks.leavesAll(due, "put(3, 1, 5)", Desks.ERROR + Desks.NONE, busy -> busy.put(3, 1, 5));
    }

    @Says("ERROR + NONE, REFUSED or MISSING.")
    static void refusedIfNameIsNot0To5(Due due) {
        ClassDesk desk = Desks.chain(12);
        for (int name : Desks.outside(0, 5)) {
            due.is("put(0, " + name + ", 5)", desk.put(0, name, 5), Desks.ERROR + Desks.REFUSED);
            due.is("put(11, " + name + ", 5)", desk.put(11, name, 5), Desks.ERROR + Desks.REFUSED);
        }
        Desks.leavesAll(due, "put(1, 6, 5)", Desks.ERROR + Desks.REFUSED, busy -> busy.put(1, 6, 5));
        Desks.leavesAll(due, "put(1, -1, 5)", Desks.ERROR + Desks.REFUSED, busy -> busy.put(1, -1, 5));
    }

    @Says("ERROR + NONE, REFUSED or MISSING.")
    static void missingIfItsClassHasNoSuchSlot(Due due) {
        ClassDesk desk = Desks.chain(2);
        desk.slot(1, 0, 1, 1);
        for (int name = 0; name <= 5; name++) {
            due.is("put(0, " + name + ", 5)", desk.put(0, name, 5), Desks.MISSING);
        }
        due.is("its VALUES", desk.look(0, 2), 0);
        desk.slot(0, 0, 2, 0);
        due.is("what was MISSING was not put", desk.get(0, 0), Desks.UNBOUND);
    }

    @Says("ERROR + NONE, REFUSED or MISSING.")
    static void neverUnbound(Due due) {
        ClassDesk desk = new ClassDesk();
        desk.slot(0, 0, 2, 0);
        desk.make(0);
        due.is("put(0, 0, 5)", desk.put(0, 0, 5), 1);
    }
}
