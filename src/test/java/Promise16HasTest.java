/** Promise 16. */
@Says("Promise 16: has")
public final class Promise16HasTest {
    public static void main(String[] args) {
        Sentences.run(Promise16HasTest.class);
    }

    @Says("What class c HAS of a name: the class whose direct SLOT that is")
    static void theClassWhoseSlotThatIs(Due due) {
        ClassDesk desk = Desks.chain(12);
        desk.slot(0, 0, 1, 1);
        desk.slot(11, 5, 2, 1);
        desk.slot(5, 3, 3, 1);
        due.is("has(0, 0)", desk.has(0, 0), 0);
        due.is("has(11, 0)", desk.has(11, 0), 0);
        due.is("has(11, 5)", desk.has(11, 5), 11);
        due.is("has(11, 3)", desk.has(11, 3), 5);
        due.is("has(5, 3)", desk.has(5, 3), 5);
    }

    @Says("-1 if none")
    static void minus1IfNone(Due due) {
        ClassDesk desk = Desks.chain(3);
        for (int name = 0; name <= 5; name++) {
            due.is("has(2, " + name + ")", desk.has(2, name), -1);
        }
        desk.slot(1, 3, 1, 0);
        due.is("one below has it", desk.has(0, 3), -1);
        desk.slot(1, 3, 0, 0);
        due.is("it is gone", desk.has(2, 3), -1);
    }

    @Says("NONE (-2) if c is not there")
    static void noneIfCIsNotThere(Due due) {
        ClassDesk desk = Desks.chain(2);
        int[] classes = {2, 11, 12, -1, Desks.LEAST, Desks.MOST};
        for (int c : classes) {
            due.is("has(" + c + ", 0)", desk.has(c, 0), Desks.NONE);
        }
    }

    @Says("REFUSED (-1, too) if name is not 0..5.")
    static void refusedIfNameIsNot0To5(Due due) {
        ClassDesk desk = Desks.chain(12);
        for (int name = 0; name <= 5; name++) {
            desk.slot(0, name, 1, 0);
        }
        for (int name : Desks.outside(0, 5)) {
            due.is("has(0, " + name + ")", desk.has(0, name), Desks.REFUSED);
            due.is("has(11, " + name + ")", desk.has(11, name), Desks.REFUSED);
        }
    }

    @Says("NONE (-2) if c is not there; REFUSED (-1, too) if name is not 0..5.")
    static void noneBeforeRefused(Due due) {
        due.is("has(1, 6)", new ClassDesk().has(1, 6), Desks.NONE);
    }
}
