/** Promise 3. */
@Says("Promise 3: slot")
public final class Promise03SlotTest {
    public static void main(String[] args) {
        Sentences.run(Promise03SlotTest.class);
    }

    @Says("The direct SLOT of a name of class c is: how 0 none")
    static void how0IsNone(Due due) {
        ClassDesk desk = Desks.chain(2);
        due.is("where none was", desk.slot(1, 0, 0, 5), 1);
        due.is("has(1, 0)", desk.has(1, 0), -1);
        desk.slot(0, 0, 3, 4);
        for (int how = 1; how <= 3; how++) {
            desk.slot(1, 0, how, 6);
            due.is("has(1, 0)", desk.has(1, 0), 1);
            due.is("none again", desk.slot(1, 0, 0, 6), 1);
            due.is("that of class 0", desk.has(1, 0), 0);
            due.is("that of class 0", desk.get(1, 0), 4);
        }
    }

    @Says("1 LOCAL with INITIAL v")
    static void how1IsLocalWithInitial(Due due) {
        ClassDesk desk = new ClassDesk();
        int[] ints = {0, -1, Desks.LEAST, Desks.MOST};
        for (int k = 0; k < ints.length; k++) {
            due.is("slot", desk.slot(0, 0, 1, ints[k]), 1);
            desk.make(0);
            due.is("its LAYOUT", desk.look(k, 1), 1);
            due.is("its INITIAL", desk.get(k, 0), ints[k]);
        }
    }

    @Says("2 LOCAL without")
    static void how2IsLocalWithout(Due due) {
        ClassDesk desk = new ClassDesk();
        due.is("slot", desk.slot(0, 5, 2, 7), 1);
        desk.make(0);
        due.is("its LAYOUT", desk.look(0, 1), 32);
        due.is("its VALUES", desk.look(0, 2), 0);
        due.is("get", desk.get(0, 5), Desks.UNBOUND);
        desk.slot(0, 5, 1, 8);
        desk.slot(0, 5, 2, 9);
        desk.make(0);
        due.is("where an INITIAL was", desk.get(1, 5), Desks.UNBOUND);
    }

    @Says("3 SHARED with the int v: 1.")
    static void how3IsShared(Due due) {
        ClassDesk desk = Desks.chain(2);
        int[] ints = {0, -1, Desks.LEAST, Desks.MOST};
        for (int v : ints) {
            due.is("slot", desk.slot(0, 2, 3, v), 1);
            due.is("class 0", desk.get(0, 2), v);
            due.is("class 1", desk.get(1, 2), v);
            desk.put(1, 2, 5);
        }
        due.is("not LOCAL", desk.look(0, 1), 0);
    }

    @Says("REFUSED if name is not 0..5")
    static void refusedIfNameIsNot0To5(Due due) {
        ClassDesk desk = Desks.chain(1);
        for (int name : Desks.outside(0, 5)) {
            for (int how = 0; how <= 3; how++) {
                due.is("slot(0, " + name + ", " + how + ", 0)", desk.slot(0, name, how, 0), Desks.REFUSED);
            }
        }
        due.is("the least", desk.slot(0, 0, 1, 0), 1);
        due.is("the greatest", desk.slot(0, 5, 1, 0), 1);
        Desks.leavesAll(due, "slot(1, 6, 1, 0)", Desks.REFUSED, busy -> busy.slot(1, 6, 1, 0));
        Desks.leavesAll(due, "slot(1, -1, 1, 0)", Desks.REFUSED, busy -> busy.slot(1, -1, 1, 0));
    }

    @Says("or how not 0..3")
    static void refusedIfHowIsNot0To3(Due due) {
        ClassDesk desk = Desks.chain(1);
        for (int how : Desks.outside(0, 3)) {
            due.is("slot(0, 0, " + how + ", 0)", desk.slot(0, 0, how, 0), Desks.REFUSED);
        }
        due.is("has(0, 0)", desk.has(0, 0), -1);
        Desks.leavesAll(due, "slot(1, 0, 4, 0)", Desks.REFUSED, busy -> busy.slot(1, 0, 4, 0));
        Desks.leavesAll(due, "slot(1, 0, -1, 0)", Desks.REFUSED, busy -> busy.slot(1, 0, -1, 0));
    }

    @Says("NONE if there is no such class.")
    static void noneIfThereIsNoSuchClass(Due due) {
        ClassDesk desk = Desks.chain(2);
        int[] classes = {2, 11, 12, -1, Desks.LEAST, Desks.MOST};
        for (int c : classes) {
            due.is("slot(" + c + ", 0, 1, 0)", desk.slot(c, 0, 1, 0), Desks.NONE);
        }
        Desks.leavesAll(due, "slot(9, 0, 1, 0)", Desks.NONE, busy -> busy.slot(9, 0, 1, 0));
        desk.define(2, 0, -1, -1);
        due.is("it has no SLOT of before", desk.has(2, 0), -1);
        due.is("it is there now", desk.slot(2, 0, 1, 0), 1);
    }

    @Says("REFUSED if name is not 0..5 or how not 0..3; NONE if there is no such class.")
    static void refusedBeforeNone(Due due) {
        ClassDesk desk = Desks.chain(1);
        due.is("slot(9, 6, 1, 0)", desk.slot(9, 6, 1, 0), Desks.REFUSED);
        due.is("slot(9, 0, 4, 0)", desk.slot(9, 0, 4, 0), Desks.REFUSED);
    }
}
