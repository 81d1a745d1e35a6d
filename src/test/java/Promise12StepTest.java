/** Promise 12. */
@Says("Promise 12: step")
public final class Promise12StepTest {
    public static void main(String[] args) {
        Sentences.run(Promise12StepTest.class);
    }

    @Says("A further step of a BODY: how many it has.")
    static void howManyItHas(Due due) {
        ClassDesk desk = new ClassDesk();
        for (int b = 0; b <= 7; b++) {
            for (int k = 1; k <= 8; k++) {
                due.is("step " + k + " of BODY " + b, desk.step(b, Desks.ADD, k), k);
            }
        }
    }

    @Says("A further step of a BODY: how many it has.")
    static void itIsTheLast(Due due) {
        ClassDesk desk = Desks.chain(1);
        Desks.primary(desk, 0, 1, Desks.SAY, 5);
        desk.step(0, Desks.SAY, 6);
        Desks.call(due, desk, 6, 0, 0, 0);
        desk.step(0, Desks.ADD, 7);
        Desks.call(due, desk, 13, 0, 0, 0);
    }

    @Says("REFUSED if b is not 0..7")
    static void refusedIfBIsNot0To7(Due due) {
        ClassDesk desk = new ClassDesk();
        for (int b : Desks.outside(0, 7)) {
            due.is("step(" + b + ", 0, 0)", desk.step(b, 0, 0), Desks.REFUSED);
        }
        Desks.leavesAll(due, "step(8, 0, 0)", Desks.REFUSED, busy -> busy.step(8, 0, 0));
        Desks.leavesAll(due, "step(-1, 0, 0)", Desks.REFUSED, busy -> busy.step(-1, 0, 0));
    }

    @Says("op not 0..9")
    static void refusedIfOpIsNot0To9(Due due) {
        ClassDesk desk = new ClassDesk();
        for (int op : Desks.outside(0, 9)) {
            due.is("step(0, " + op + ", 0)", desk.step(0, op, 0), Desks.REFUSED);
        }
        for (int op = 0; op <= 9; op++) {
            due.is("step(" + op % 8 + ", " + op + ", 0)", desk.step(op % 8, op, 0), op < 8 ? 1 : 2);
        }
        Desks.leavesAll(due, "step(0, 10, 0)", Desks.REFUSED, busy -> busy.step(0, 10, 0));
        Desks.leavesAll(due, "step(0, -1, 0)", Desks.REFUSED, busy -> busy.step(0, -1, 0));
    }

    private static void operandIs0To(Due due, int op, int most) {
        ClassDesk desk = new ClassDesk();
        for (int a : Desks.outside(0, most)) {
            due.is("step(0, " + op + ", " + a + ")", desk.step(0, op, a), Desks.REFUSED);
        }
        due.is("the least", desk.step(0, op, 0), 1);
        due.is("the greatest", desk.step(0, op, most), 2);
        Desks.leavesAll(due, "step(0, " + op + ", " + (most + 1) + ")", Desks.REFUSED, busy -> busy.step(0, op, most + 1));
    }

    @Says("or a not 0..5 (2, 3)")
    static void refusedIfANameIsNot0To5(Due due) {
        operandIs0To(due, Desks.GET, 5);
        operandIs0To(due, Desks.PUT, 5);
    }

    @Says("0..4 (7)")
    static void refusedIfAGenericIsNot0To4(Due due) {
        operandIs0To(due, Desks.CALL, 4);
    }

    @Says("0..11 (8)")
    static void refusedIfAClassIsNot0To11(Due due) {
        operandIs0To(due, Desks.BECOME, 11);
    }

    @Says("or a not 0..5 (2, 3), 0..4 (7), 0..11 (8)")
    static void otherOperandsMayBeAnyInt(Due due) {
        int[] ops = {Desks.SAY, Desks.ADD, Desks.NEXT, Desks.HASNEXT, Desks.NOTE, Desks.SWAP};
        int[] any = {-1, 0, 5, 12, Desks.LEAST, Desks.MOST};
        for (int op : ops) {
            ClassDesk desk = new ClassDesk();
            for (int k = 0; k < any.length; k++) {
                due.is("step(0, " + op + ", " + any[k] + ")", desk.step(0, op, any[k]), k + 1);
            }
        }
    }

    @Says("or a not 0..5 (2, 3), 0..4 (7), 0..11 (8)")
    static void whatIsNotThereYetMayBeNamed(Due due) {
        ClassDesk desk = new ClassDesk();
        due.is("a SLOT", desk.step(0, Desks.GET, 5), 1);
        due.is("a GENERIC without PARAMETERS", desk.step(0, Desks.CALL, 4), 2);
        due.is("a class that is not there", desk.step(0, Desks.BECOME, 11), 3);
    }

    @Says("FULL if it has 8.")
    static void fullIfItHas8(Due due) {
        ClassDesk desk = Desks.chain(1);
        Desks.primary(desk, 0, 1);
        for (int k = 1; k <= 8; k++) {
            due.is("step " + k, desk.step(0, Desks.ADD, 1), k);
        }
        due.is("step 9", desk.step(0, Desks.ADD, 1), Desks.FULL);
        Desks.call(due, desk, 8, 0, 0, 0);
        due.is("another BODY", desk.step(1, Desks.ADD, 1), 1);
        due.is("clear(0)", desk.clear(0), 8);
        due.is("room again", desk.step(0, Desks.ADD, 1), 1);
    }

    @Says("REFUSED if b is not 0..7, op not 0..9, or a not 0..5 (2, 3), 0..4 (7), 0..11 (8); FULL if it has 8.")
    static void refusedBeforeFull(Due due) {
        ClassDesk desk = new ClassDesk();
        for (int k = 1; k <= 8; k++) {
            desk.step(7, Desks.ADD, 1);
        }
        due.is("op", desk.step(7, 10, 0), Desks.REFUSED);
        due.is("a name", desk.step(7, Desks.PUT, 6), Desks.REFUSED);
        due.is("a GENERIC", desk.step(7, Desks.CALL, 5), Desks.REFUSED);
        due.is("a class", desk.step(7, Desks.BECOME, 12), Desks.REFUSED);
        due.is("all well", desk.step(7, Desks.BECOME, 11), Desks.FULL);
    }
}
