/** Promise 5. */
@Says("Promise 5: become")
public final class Promise05BecomeTest {
    public static void main(String[] args) {
        Sentences.run(Promise05BecomeTest.class);
    }

    @Says("INSTANCE i is TOUCHED, gets class c, and is TOUCHED again: 1.")
    static void itGetsItsClass(Due due) {
        ClassDesk desk = Desks.chain(12);
        due.is("become(0, 11)", desk.become(0, 11), 1);
        due.is("look(0, 0)", desk.look(0, 0), 11);
        due.is("become(11, 0)", desk.become(11, 0), 1);
        due.is("look(11, 0)", desk.look(11, 0), 0);
        due.is("the class that it has", desk.become(11, 0), 1);
        due.is("look(11, 0)", desk.look(11, 0), 0);
        due.is("no LAYOUT was changed", desk.count(7), 0);
    }

    /** Class 1 had name 0 LOCAL when INSTANCE 0 was made, with VALUE 9; class 2 is beside it. */
    private static ClassDesk beside() {
        ClassDesk desk = new ClassDesk();
        desk.define(1, 0, -1, -1);
        desk.define(2, 0, -1, -1);
        desk.slot(1, 0, 1, 1);
        desk.make(1);
        desk.put(0, 0, 9);
        return desk;
    }

    @Says("INSTANCE i is TOUCHED, gets class c, and is TOUCHED again: 1.")
    static void itIsTouchedBeforeItChanges(Due due) {
        ClassDesk desk = beside();
        // Not LOCAL in class 1 any more, so the VALUE is lost before class 2 gives its INITIAL.
        desk.slot(1, 0, 0, 0);
        desk.slot(2, 0, 1, 2);
        due.is("become(0, 2)", desk.become(0, 2), 1);
        due.is("LAYOUTS changed before and behind", desk.count(7), 2);
        due.is("get(0, 0)", desk.get(0, 0), 2);
    }

    @Says("INSTANCE i is TOUCHED, gets class c, and is TOUCHED again: 1.")
    static void whatTheFirstTouchBringsStays(Due due) {
        ClassDesk desk = beside();
        // LOCAL in class 1 by now, so it gets that INITIAL first, which it keeps in class 2.
        desk.slot(1, 3, 1, 7);
        desk.slot(2, 3, 1, 8);
        due.is("become(0, 2)", desk.become(0, 2), 1);
        due.is("get(0, 3)", desk.get(0, 3), 7);
    }

    @Says("and is TOUCHED again: 1.")
    static void itIsTouchedWhenItHasChanged(Due due) {
        ClassDesk desk = beside();
        desk.slot(2, 5, 1, 4);
        due.is("become(0, 2)", desk.become(0, 2), 1);
        due.is("its LAYOUT", desk.look(0, 1), 32);
        due.is("its VALUES", desk.look(0, 2), 32);
        due.is("changed once", desk.count(7), 1);
    }

    @Says("NONE if there is no such INSTANCE or class.")
    static void noneIfThereIsNoSuchInstance(Due due) {
        ClassDesk desk = Desks.chain(2);
        int[] instances = {2, 11, 12, 16, 17, -1, Desks.LEAST, Desks.MOST};
        for (int i : instances) {
            due.is("become(" + i + ", 1)", desk.become(i, 1), Desks.NONE);
            due.is("become(" + i + ", 9)", desk.become(i, 9), Desks.NONE);
        }
        Desks.leavesAll(due, "become(3, 0)", Desks.NONE, busy -> busy.become(3, 0));
    }

    @Says("NONE if there is no such INSTANCE or class.")
    static void noneIfThereIsNoSuchClass(Due due) {
        ClassDesk desk = Desks.chain(2);
        int[] classes = {2, 11, 12, -1, Desks.LEAST, Desks.MOST};
        for (int c : classes) {
            due.is("become(0, " + c + ")", desk.become(0, c), Desks.NONE);
        }
        due.is("look(0, 0)", desk.look(0, 0), 0);
        Desks.leavesAll(due, "become(1, 4)", Desks.NONE, busy -> busy.become(1, 4));
        Desks.leavesAll(due, "become(1, 12)", Desks.NONE, busy -> busy.become(1, 12));
    }
}
