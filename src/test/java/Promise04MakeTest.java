/** Promise 4. */
@Says("Promise 4: make")
public final class Promise04MakeTest {
    public static void main(String[] args) {
        Sentences.run(Promise04MakeTest.class);
    }

    @Says("A new INSTANCE of class c: its number")
    static void itsNumber(Due due) {
        ClassDesk desk = new ClassDesk();
        desk.define(11, 0, -1, -1);
        for (int i = 0; i <= 11; i++) {
            due.is("make", desk.make(i % 2 == 0 ? 0 : 11), i);
            due.is("its class", desk.look(i, 0), i % 2 == 0 ? 0 : 11);
        }
    }

    @Says("its LOCAL SLOTS have their INITIAL ints.")
    static void itsInitialInts(Due due) {
        ClassDesk desk = Desks.chain(2);
        desk.slot(0, 0, 1, 5);
        desk.slot(1, 1, 1, Desks.LEAST);
        desk.slot(0, 2, 2, 0);
        desk.slot(0, 3, 3, 6);
        due.is("make", desk.make(1), 2);
        due.is("its LAYOUT", desk.look(2, 1), 1 + 2 + 4);
        due.is("its VALUES", desk.look(2, 2), 1 + 2);
        due.is("being made is no change by TOUCHING", desk.count(7), 0);
        due.is("get(2, 0)", desk.get(2, 0), 5);
        due.is("get(2, 1)", desk.get(2, 1), Desks.LEAST);
        due.is("get(2, 2)", desk.get(2, 2), Desks.UNBOUND);
        due.is("get(2, 3)", desk.get(2, 3), 6);
        due.is("nor was it by these", desk.count(7), 0);
    }

    @Says("NONE")
    static void noneIfThereIsNoSuchClass(Due due) {
        ClassDesk desk = Desks.chain(2);
        int[] classes = {2, 11, 12, -1, Desks.LEAST, Desks.MOST};
        for (int c : classes) {
            due.is("make(" + c + ")", desk.make(c), Desks.NONE);
        }
        due.is("count(1)", desk.count(1), 2);
        Desks.leavesAll(due, "make(9)", Desks.NONE, busy -> busy.make(9));
    }

    @Says("FULL if there are 12.")
    static void fullIfThereAre12(Due due) {
        ClassDesk desk = Desks.chain(11);
        due.is("the twelfth", desk.make(0), 11);
        due.is("the thirteenth", desk.make(0), Desks.FULL);
        due.is("of another class", desk.make(10), Desks.FULL);
        due.is("count(1)", desk.count(1), 12);
        due.is("look(12, 0)", desk.look(12, 0), Desks.NONE);
        due.is("the last is as it was", desk.look(11, 0), 0);
    }

    @Says("NONE; FULL if there are 12.")
    static void noneBeforeFull(Due due) {
        ClassDesk desk = new ClassDesk();
        for (int i = 0; i <= 11; i++) {
            desk.make(0);
        }
        due.is("make(1)", desk.make(1), Desks.NONE);
        due.is("make(0)", desk.make(0), Desks.FULL);
    }
}
