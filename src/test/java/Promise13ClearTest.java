/** Promise 13. */
@Says("Promise 13: clear")
public final class Promise13ClearTest {
    public static void main(String[] args) {
        Sentences.run(Promise13ClearTest.class);
    }

    @Says("BODY b has no steps")
    static void noStepsFromNowOn(Due due) {
        ClassDesk desk = Desks.chain(1);
        Desks.primary(desk, 0, 1, Desks.NOTE, 1, Desks.SAY, 5);
        desk.step(1, Desks.SAY, 6);
        desk.clear(0);
        Desks.call(due, desk, 0, 0, 0, 0);
        due.is("count(3)", desk.count(3), 0);
        due.is("another BODY has its step", desk.clear(1), 1);
        due.is("from the front again", desk.step(0, Desks.ADD, 7), 1);
        Desks.call(due, desk, 7, 0, 0, 0);
    }

    @Says("how many it had")
    static void howManyItHad(Due due) {
        ClassDesk desk = new ClassDesk();
        for (int b = 0; b <= 7; b++) {
            for (int k = 0; k <= b; k++) {
                desk.step(b, Desks.SAY, 0);
            }
        }
        for (int b = 0; b <= 7; b++) {
            due.is("clear(" + b + ")", desk.clear(b), b + 1);
            due.is("clear(" + b + ") again", desk.clear(b), 0);
        }
    }

    @Says("REFUSED if b is not 0..7.")
    static void refusedIfBIsNot0To7(Due due) {
        ClassDesk desk = new ClassDesk();
        for (int b : Desks.outside(0, 7)) {
            due.is("clear(" + b + ")", desk.clear(b), Desks.REFUSED);
        }
        Desks.leavesAll(due, "clear(8)", Desks.REFUSED, busy -> busy.clear(8));
        Desks.leavesAll(due, "clear(-1)", Desks.REFUSED, busy -> busy.clear(-1));
    }
}
