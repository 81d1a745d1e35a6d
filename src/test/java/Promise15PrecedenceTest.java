/** Promise 15. */
@Says("Promise 15: precedence")
public final class Promise15PrecedenceTest {
    public static void main(String[] args) {
        Sentences.run(Promise15PrecedenceTest.class);
    }

    @Says("The k-th class (0 first) in the PRECEDENCE of class c")
    static void theKthClass(Due due) {
        ClassDesk desk = Desks.chain(12);
        for (int c = 0; c <= 11; c++) {
            for (int k = 0; k <= c; k++) {
                due.is("precedence(" + c + ", " + k + ")", desk.precedence(c, k), c - k);
            }
        }
    }

    @Says("NONE if there is none.")
    static void noneIfThereIsNoSuchClass(Due due) {
        ClassDesk desk = Desks.chain(2);
        int[] classes = {2, 11, 12, -1, Desks.LEAST, Desks.MOST};
        for (int c : classes) {
            due.is("precedence(" + c + ", 0)", desk.precedence(c, 0), Desks.NONE);
        }
    }

    @Says("NONE if there is none.")
    static void noneBehindItsEnd(Due due) {
        ClassDesk desk = Desks.chain(12);
        for (int c = 0; c <= 11; c++) {
            for (int k : Desks.outside(0, c)) {
                due.is("precedence(" + c + ", " + k + ")", desk.precedence(c, k), Desks.NONE);
            }
        }
        // A row that grows shorter leaves nothing behind.
        desk.define(11, 0, -1, -1);
        due.is("precedence(11, 1)", desk.precedence(11, 1), 0);
        due.is("precedence(11, 2)", desk.precedence(11, 2), Desks.NONE);
    }
}
