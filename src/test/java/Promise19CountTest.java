/** Promise 19. */
@Says("Promise 19: count")
public final class Promise19CountTest {
    public static void main(String[] args) {
        Sentences.run(Promise19CountTest.class);
    }

    @Says("What 0: classes")
    static void classes(Due due) {
        ClassDesk desk = new ClassDesk();
        due.is("class 0 is one", desk.count(0), 1);
        for (int c = 11; c >= 1; c--) {
            desk.define(c, 0, -1, -1);
            due.is("count(0)", desk.count(0), 13 - c);
        }
        desk.define(11, 1, -1, -1);
        due.is("one defined anew", desk.count(0), 12);
        desk.define(12, 0, -1, -1);
        due.is("one refused", desk.count(0), 12);
    }

    @Says("1: INSTANCES")
    static void instances(Due due) {
        ClassDesk desk = new ClassDesk();
        for (int i = 0; i <= 11; i++) {
            due.is("count(1)", desk.count(1), i);
            desk.make(0);
            desk.make(5);
        }
        desk.make(0);
        due.is("count(1)", desk.count(1), 12);
    }

    @Says("2: METHODS")
    static void methods(Due due) {
        ClassDesk desk = Desks.chain(4);
        desk.generic(0, 1);
        desk.generic(1, 2);
        for (int m = 0; m <= 15; m++) {
            due.is("count(2)", desk.count(2), m);
            desk.method(m % 2, m / 2 % 4, m / 8, 0, 0);
            desk.method(m % 2, m / 2 % 4, m / 8, 0, 1);
        }
        desk.method(0, 0, 3, 0, 0);
        due.is("count(2)", desk.count(2), 16);
        desk.remove(3);
        desk.remove(3);
        due.is("one removed", desk.count(2), 15);
        desk.generic(0, 1);
        due.is("eight of GENERIC 0 are gone", desk.count(2), 7);
    }

    @Says("3: ints NOTED so far")
    static void intsNoted(Due due) {
        ClassDesk desk = Desks.chain(1);
        Desks.primary(desk, 0, 1, Desks.NOTE, 5, Desks.NOTE, 5, Desks.NOTE, -2);
        for (int n = 0; n <= 10; n++) {
            due.is("count(3)", desk.count(3), 3 * n);
            desk.call(0, 0, 0);
        }
        desk.step(0, Desks.NEXT, 0);
        desk.call(0, 0, 0);
        due.is("those before an ERROR, too", desk.count(3), 36);
    }

    @Says("4: calls of METHODS' BODIES so far")
    static void callsOfBodies(Due due) {
        ClassDesk desk = Desks.chain(2);
        Desks.primary(desk, 0, 1);
        desk.call(0, 1, 0);
        due.is("a BODY without steps", desk.count(4), 1);
        desk.method(0, Desks.BEFORE, 0, 0, 0);
        desk.method(0, Desks.BEFORE, 1, 0, 0);
        desk.method(0, Desks.AFTER, 0, 0, 0);
        desk.call(0, 1, 0);
        due.is("BEFORES and AFTERS", desk.count(4), 5);
        Desks.body(desk, 1, Desks.NEXT, 0, Desks.NEXT, 0);
        desk.method(0, Desks.AROUND, 0, 0, 1);
        desk.call(0, 1, 0);
        due.is("an AROUND that does NEXT twice", desk.count(4), 14);
        Desks.primary(desk, 2, 1, Desks.CALL, 0, Desks.NEXT, 0);
        desk.call(2, 0, 0);
        due.is("by a CALL, and before an ERROR", desk.count(4), 14 + 1 + 7);
        desk.call(4, 0, 0);
        desk.call(0, 9, 0);
        due.is("none for what is not there", desk.count(4), 22);
    }

    @Says("5: how often EFFECTIVE METHODS were found anew")
    static void foundAnew(Due due) {
        ClassDesk desk = Desks.chain(2);
        Desks.primary(desk, 0, 1);
        for (int round = 1; round <= 3; round++) {
            desk.call(0, 0, 0);
            desk.call(0, 0, 0);
            due.is("count(5)", desk.count(5), round);
            desk.define(2, 0, -1, -1);
        }
        desk.method(0, Desks.BEFORE, 16, 0, 0);
        desk.call(0, 0, 0);
        desk.call(0, 0, 0);
        due.is("each time for an INSTANCE", desk.count(5), 5);
    }

    @Says("6: how many are kept now")
    static void keptNow(Due due) {
        ClassDesk desk = Desks.chain(3);
        Desks.primary(desk, 0, 1);
        Desks.primary(desk, 1, 2);
        for (int x = 0; x < 3; x++) {
            desk.call(0, x, 0);
            desk.call(1, x, 2 - x);
            due.is("count(6)", desk.count(6), 2 * x + 2);
        }
        desk.generic(1, 2);
        due.is("those of GENERIC 0", desk.count(6), 3);
        desk.define(3, 0, -1, -1);
        due.is("none", desk.count(6), 0);
        due.is("how often they were found stays", desk.count(5), 6);
    }

    @Says("7: how often an INSTANCE's LAYOUT was changed by TOUCHING")
    static void layoutsChanged(Due due) {
        ClassDesk desk = Desks.chain(2);
        desk.get(0, 0);
        due.is("TOUCHED, but not changed", desk.count(7), 0);
        desk.slot(0, 0, 1, 0);
        desk.slot(0, 1, 1, 0);
        due.is("not TOUCHED yet", desk.count(7), 0);
        desk.get(0, 0);
        due.is("two names at once", desk.count(7), 1);
        desk.get(0, 1);
        due.is("TOUCHED, but not changed", desk.count(7), 1);
        desk.put(1, 0, 5);
        due.is("another INSTANCE", desk.count(7), 2);
        desk.put(1, 0, 6);
        desk.unbind(1, 0);
        due.is("a VALUE is no LAYOUT", desk.count(7), 2);
        desk.slot(0, 0, 3, 0);
        desk.slot(0, 2, 2, 0);
        desk.get(1, 0);
        due.is("one name went and one came", desk.count(7), 3);
        desk.slot(1, 4, 1, 0);
        desk.become(0, 1);
        due.is("become: before it and behind it", desk.count(7), 5);
        desk.make(1);
        due.is("make", desk.count(7), 5);
    }

    @Says("8: calls of call() that gave no ERROR")
    static void callsWithoutError(Due due) {
        ClassDesk desk = Desks.chain(1);
        due.is("NONE", desk.call(0, 0, 0), Desks.ERROR + Desks.NONE);
        desk.generic(0, 1);
        due.is("INAPPLICABLE", desk.call(0, 0, 0), Desks.INAPPLICABLE);
        due.is("count(8)", desk.count(8), 0);
        Desks.primary(desk, 0, 1, Desks.SAY, -1);
        Desks.primary(desk, 1, 1, Desks.CALL, 0, Desks.CALL, 0);
        Desks.call(due, desk, -1, 0, 0, 0);
        due.is("count(8)", desk.count(8), 1);
        Desks.call(due, desk, -2, 1, 0, 0);
        due.is("a CALL is no call()", desk.count(8), 2);
        desk.step(0, Desks.NEXT, 0);
        Desks.call(due, desk, Desks.LAST, 0, 0, 0);
        due.is("count(8)", desk.count(8), 2);
    }

    @Says("9: steps of BODIES done so far.")
    static void stepsDone(Due due) {
        ClassDesk desk = Desks.chain(1);
        Desks.primary(desk, 0, 1);
        desk.call(0, 0, 0);
        due.is("a BODY without steps", desk.count(9), 0);
        Desks.body(desk, 0, Desks.SAY, 1, Desks.ADD, 1, Desks.HASNEXT, 0, Desks.NOTE, 1, Desks.SWAP, 0, Desks.BECOME, 0);
        due.is("steps that were only written", desk.count(9), 0);
        desk.call(0, 0, 0);
        due.is("six", desk.count(9), 6);
        desk.call(0, 0, 0);
        due.is("six more", desk.count(9), 12);
        Desks.primary(desk, 1, 1, Desks.CALL, 0, Desks.GET, 5, Desks.NOTE, 1);
        Desks.call(due, desk, Desks.MISSING, 1, 0, 0);
        due.is("the step that ended with an ERROR, too", desk.count(9), 12 + 6 + 2);
    }

    @Says("REFUSED for others.")
    static void refusedForOthers(Due due) {
        ClassDesk desk = Desks.busy();
        for (int what : Desks.outside(0, 9)) {
            due.is("count(" + what + ")", desk.count(what), Desks.REFUSED);
        }
    }
}
