/** Promise 17. */
@Says("Promise 17: look")
public final class Promise17LookTest {
    public static void main(String[] args) {
        Sentences.run(Promise17LookTest.class);
    }

    @Says("Of INSTANCE i (which is not TOUCHED by this)")
    static void itIsNotTouchedByThis(Due due) {
        ClassDesk desk = new ClassDesk();
        desk.slot(0, 0, 1, 1);
        desk.make(0);
        desk.slot(0, 0, 0, 0);
        desk.slot(0, 1, 1, 1);
        for (int round = 0; round < 2; round++) {
            due.is("its class", desk.look(0, 0), 0);
            due.is("its LAYOUT of before", desk.look(0, 1), 1);
            due.is("its VALUES of before", desk.look(0, 2), 1);
            due.is("NONE", desk.look(0, 3), Desks.NONE);
        }
        due.is("count(7)", desk.count(7), 0);
    }

    @Says("what 0: its class")
    static void itsClass(Due due) {
        ClassDesk desk = Desks.chain(12);
        for (int i = 0; i <= 11; i++) {
            due.is("look(" + i + ", 0)", desk.look(i, 0), i);
        }
        desk.become(11, 0);
        due.is("look(11, 0)", desk.look(11, 0), 0);
    }

    @Says("1: the sum of 2^name of its LAYOUT")
    static void theSumOfItsLayout(Due due) {
        ClassDesk desk = new ClassDesk();
        for (int name = 0; name <= 5; name++) {
            desk.make(0);
            due.is("look(" + name + ", 1)", desk.look(name, 1), (1 << name) - 1);
            desk.slot(0, name, 1 + name % 2, 0);
        }
        desk.make(0);
        due.is("all six", desk.look(6, 1), 63);
        desk.slot(0, 0, 3, 0);
        desk.make(0);
        due.is("SHARED does not count", desk.look(7, 1), 62);
    }

    @Says("2: of its VALUES.")
    static void theSumOfItsValues(Due due) {
        ClassDesk desk = new ClassDesk();
        for (int name = 0; name <= 5; name++) {
            desk.slot(0, name, 2, 0);
        }
        desk.make(0);
        due.is("none", desk.look(0, 2), 0);
        for (int name = 0; name <= 5; name++) {
            desk.put(0, name, 0);
            due.is("look(0, 2)", desk.look(0, 2), (2 << name) - 1);
        }
        desk.unbind(0, 0);
        due.is("look(0, 2)", desk.look(0, 2), 62);
        due.is("its LAYOUT", desk.look(0, 1), 63);
    }

    @Says("NONE if there is none, or for others.")
    static void noneIfThereIsNoSuchInstance(Due due) {
        ClassDesk desk = Desks.chain(2);
        int[] instances = {2, 11, 12, -1, Desks.LEAST, Desks.MOST};
        for (int i : instances) {
            for (int what = 0; what <= 3; what++) {
                due.is("look(" + i + ", " + what + ")", desk.look(i, what), Desks.NONE);
            }
        }
    }

    @Says("or for others.")
    static void noneForOthers(Due due) {
        ClassDesk desk = Desks.chain(2);
        for (int what : Desks.outside(0, 2)) {
            due.is("look(0, " + what + ")", desk.look(0, what), Desks.NONE);
        }
    }
}
