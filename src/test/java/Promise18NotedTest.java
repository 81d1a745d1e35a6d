/** Promise 18. */
@Says("Promise 18: noted")
public final class Promise18NotedTest {
    public static void main(String[] args) {
        Sentences.run(Promise18NotedTest.class);
    }

    /** A desk on which 1, 2, .. n have been NOTED, two by each call() but perhaps the last. */
    private static ClassDesk noting(int n) {
        ClassDesk desk = Desks.chain(1);
        Desks.primary(desk, 0, 1);
        for (int k = 1; k <= n; k += 2) {
            Desks.body(desk, 0, Desks.NOTE, k);
            if (k < n) {
                desk.step(0, Desks.NOTE, k + 1);
            }
            desk.call(0, 0, 0);
        }
        return desk;
    }

    @Says("The k-th int NOTED before the latest (0 that one")
    static void theKthBeforeTheLatest(Due due) {
        ClassDesk desk = noting(5);
        for (int k = 0; k < 5; k++) {
            due.is("noted(" + k + ")", desk.noted(k), 5 - k);
        }
        due.is("asking changes nothing", desk.noted(0), 5);
    }

    @Says("the latest 20 are kept)")
    static void theLatest20AreKept(Due due) {
        int[] sizes = {19, 20, 21, 39, 40, 41};
        for (int n : sizes) {
            ClassDesk desk = noting(n);
            for (int k = 0; k < 20; k++) {
                due.is(n + " NOTED, noted(" + k + ")", desk.noted(k), k < n ? n - k : Desks.NONE);
            }
            due.is(n + " NOTED, noted(20)", desk.noted(20), Desks.NONE);
            due.is(n + " NOTED, count(3)", desk.count(3), n);
        }
    }

    @Says("NONE if there is none (it may be -2, too).")
    static void noneIfThereIsNone(Due due) {
        for (int n = 0; n <= 2; n++) {
            ClassDesk desk = noting(n);
            int[] none = {n, 19, 20, 21, -1, Desks.LEAST, Desks.MOST};
            for (int k : none) {
                due.is(n + " NOTED, noted(" + k + ")", desk.noted(k), Desks.NONE);
            }
        }
    }

    @Says("(it may be -2, too).")
    static void minus2MayBeNoted(Due due) {
        ClassDesk desk = noting(0);
        Desks.body(desk, 0, Desks.NOTE, 7, Desks.NOTE, -2, Desks.NOTE, Desks.LEAST, Desks.NOTE, Desks.MOST);
        desk.call(0, 0, 0);
        due.row("notes", Desks.notes(desk, 4), 7, -2, Desks.LEAST, Desks.MOST);
        due.is("count(3)", desk.count(3), 4);
    }
}
