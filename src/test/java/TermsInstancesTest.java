/** What the document's Terms say of INSTANCES and of being TOUCHED. */
@Says("Terms")
public final class TermsInstancesTest {
    public static void main(String[] args) {
        Sentences.run(TermsInstancesTest.class);
    }

    /** INSTANCES 0 and 1 of class 1, whose name 0 is LOCAL; name 3 became LOCAL after they were made. */
    private static ClassDesk behind() {
        ClassDesk desk = new ClassDesk();
        desk.define(1, 0, -1, -1);
        desk.define(2, 1, -1, -1);
        desk.slot(1, 0, 1, 5);
        desk.make(1);
        desk.make(1);
        desk.slot(1, 3, 1, 8);
        return desk;
    }

    private static void hasFollowed(Due due, ClassDesk desk, int i) {
        due.is("its LAYOUT", desk.look(i, 1), 1 + 8);
        due.is("its VALUES", desk.look(i, 2), 1 + 8);
        due.is("once", desk.count(7), 1);
    }

    @Says("INSTANCES 0..11 have a class, and for each name a LOCAL VALUE, or none.")
    static void twelveInstancesWithSixValuesEach(Due due) {
        ClassDesk desk = new ClassDesk();
        for (int name = 0; name <= 5; name++) {
            desk.slot(0, name, 1, 0);
        }
        for (int i = 0; i <= 11; i++) {
            due.is("make", desk.make(0), i);
            due.is("its class", desk.look(i, 0), 0);
            due.is("a VALUE for each name", desk.look(i, 2), 63);
            for (int name = 0; name <= 5; name++) {
                desk.put(i, name, 10 * i + name);
            }
        }
        for (int i = 0; i <= 11; i++) {
            for (int name = 0; name <= 5; name++) {
                due.is("get(" + i + ", " + name + ")", desk.get(i, name), 10 * i + name);
            }
            desk.unbind(i, i % 6);
            due.is("none for one name", desk.look(i, 2), 63 - (1 << i % 6));
        }
    }

    @Says("Each remembers its LAYOUT: which names were LOCAL in its class when it was made or TOUCHED last.")
    static void itsLayoutIsOfWhenItWasMade(Due due) {
        ClassDesk desk = new ClassDesk();
        desk.slot(0, 0, 2, 0);
        desk.slot(0, 1, 3, 0);
        desk.slot(0, 5, 1, 0);
        desk.make(0);
        due.is("LOCAL with and without, not SHARED", desk.look(0, 1), 1 + 32);
        desk.slot(0, 2, 1, 0);
        desk.slot(0, 0, 0, 0);
        due.is("as it was when it was made", desk.look(0, 1), 1 + 32);
        desk.make(0);
        due.is("that of a later one", desk.look(1, 1), 4 + 32);
    }

    @Says("Each remembers its LAYOUT: which names were LOCAL in its class when it was made or TOUCHED last.")
    static void itsLayoutIsOfWhenItWasTouchedLast(Due due) {
        ClassDesk desk = behind();
        desk.get(0, 0);
        due.is("TOUCHED", desk.look(0, 1), 1 + 8);
        due.is("not TOUCHED", desk.look(1, 1), 1);
        desk.slot(1, 4, 1, 0);
        due.is("as it was when it was TOUCHED", desk.look(0, 1), 1 + 8);
    }

    @Says("It is TOUCHED before its SLOTS or its class are looked at or changed by get, put, unbind, become, GET, PUT or BECOME")
    static void getTouches(Due due) {
        ClassDesk desk = behind();
        due.is("get of what came later", desk.get(0, 3), 8);
        hasFollowed(due, desk, 0);
    }

    @Says("It is TOUCHED before its SLOTS or its class are looked at or changed by get, put, unbind, become, GET, PUT or BECOME")
    static void getOfAnotherNameTouches(Due due) {
        ClassDesk desk = behind();
        due.is("get of what was there", desk.get(0, 0), 5);
        hasFollowed(due, desk, 0);
    }

    @Says("It is TOUCHED before its SLOTS or its class are looked at or changed by get, put, unbind, become, GET, PUT or BECOME")
    static void putTouchesBeforeIt(Due due) {
        ClassDesk desk = behind();
        due.is("put of what came later", desk.put(0, 3, 1), 1);
        hasFollowed(due, desk, 0);
        // Were it TOUCHED behind the put, the INITIAL would be there.
        due.is("get", desk.get(0, 3), 1);
    }

    @Says("It is TOUCHED before its SLOTS or its class are looked at or changed by get, put, unbind, become, GET, PUT or BECOME")
    static void unbindTouchesBeforeIt(Due due) {
        ClassDesk desk = behind();
        due.is("it had the INITIAL by then", desk.unbind(0, 3), 1);
        due.is("its LAYOUT", desk.look(0, 1), 1 + 8);
        due.is("its VALUES", desk.look(0, 2), 1);
        due.is("once", desk.count(7), 1);
    }

    @Says("It is TOUCHED before its SLOTS or its class are looked at or changed by get, put, unbind, become, GET, PUT or BECOME")
    static void becomeTouches(Due due) {
        ClassDesk desk = behind();
        due.is("become, the same class", desk.become(0, 1), 1);
        hasFollowed(due, desk, 0);
    }

    @Says("It is TOUCHED before its SLOTS or its class are looked at or changed by get, put, unbind, become, GET, PUT or BECOME")
    static void getInABodyTouches(Due due) {
        ClassDesk desk = behind();
        Desks.primary(desk, 0, 1, Desks.GET, 3);
        Desks.call(due, desk, 8, 0, 0, 0);
        hasFollowed(due, desk, 0);
    }

    @Says("It is TOUCHED before its SLOTS or its class are looked at or changed by get, put, unbind, become, GET, PUT or BECOME")
    static void putInABodyTouchesBeforeIt(Due due) {
        ClassDesk desk = behind();
        Desks.primary(desk, 0, 1, Desks.SAY, 2, Desks.PUT, 3);
        Desks.call(due, desk, 2, 0, 0, 0);
        hasFollowed(due, desk, 0);
        due.is("get", desk.get(0, 3), 2);
    }

    @Says("It is TOUCHED before its SLOTS or its class are looked at or changed by get, put, unbind, become, GET, PUT or BECOME")
    static void becomeInABodyTouches(Due due) {
        ClassDesk desk = behind();
        Desks.primary(desk, 0, 1, Desks.BECOME, 2);
        Desks.call(due, desk, 0, 0, 0, 0);
        due.is("its class", desk.look(0, 0), 2);
        hasFollowed(due, desk, 0);
    }

    @Says("(being an argument alone does not TOUCH it)")
    static void beingAnArgumentDoesNotTouch(Due due) {
        ClassDesk desk = behind();
        Desks.primary(desk, 0, 2, Desks.SAY, 1, Desks.ADD, 1, Desks.HASNEXT, 0, Desks.NOTE, 1, Desks.SWAP, 0,
                Desks.CALL, 1);
        Desks.primary(desk, 1, 1, Desks.ADD, 3);
        desk.method(0, Desks.AROUND, 16, 17, 2);
        Desks.body(desk, 2, Desks.NEXT, 0);
        Desks.call(due, desk, 3, 0, 0, 1);
        due.is("the first", desk.look(0, 1), 1);
        due.is("the second", desk.look(1, 1), 1);
        due.is("count(7)", desk.count(7), 0);
    }

    @Says("(being an argument alone does not TOUCH it)")
    static void theSecondArgumentOfAGetIsNotTouched(Due due) {
        ClassDesk desk = behind();
        Desks.primary(desk, 0, 2, Desks.GET, 3);
        Desks.call(due, desk, 8, 0, 0, 1);
        hasFollowed(due, desk, 0);
        due.is("the second", desk.look(1, 1), 1);
    }

    @Says("a name that is LOCAL in its class now and was not in its LAYOUT gets the INITIAL int (none without)")
    static void aNameThatCameGetsTheInitialOfNow(Due due) {
        ClassDesk desk = behind();
        desk.slot(1, 3, 1, 80);
        due.is("the INITIAL of now, not that of before", desk.get(0, 3), 80);
        desk.slot(1, 4, 3, 1);
        due.is("SHARED", desk.get(0, 4), 1);
        desk.slot(1, 4, 1, 90);
        due.is("it was SHARED when TOUCHED last", desk.get(0, 4), 90);
        desk.slot(2, 5, 1, 70);
        desk.become(0, 2);
        due.is("LOCAL in its new class", desk.look(0, 2), 1 + 8 + 16 + 32);
        due.is("the INITIAL of its new class", desk.get(0, 5), 70);
    }

    @Says("a name that is LOCAL in its class now and was not in its LAYOUT gets the INITIAL int (none without)")
    static void aNameThatCameWithoutAnInitialGetsNone(Due due) {
        ClassDesk desk = behind();
        desk.slot(1, 3, 2, 80);
        due.is("none", desk.get(0, 3), Desks.UNBOUND);
        due.is("its LAYOUT", desk.look(0, 1), 1 + 8);
        due.is("its VALUES", desk.look(0, 2), 1);
        desk.slot(1, 3, 1, 81);
        due.is("it is in its LAYOUT by now", desk.get(0, 3), Desks.UNBOUND);
    }

    @Says("one that is not LOCAL now loses its VALUE")
    static void oneThatIsGoneLosesItsValue(Due due) {
        ClassDesk desk = behind();
        desk.put(0, 0, 50);
        desk.slot(1, 0, 0, 0);
        due.is("not before it is TOUCHED", desk.look(0, 2), 1 + 8);
        due.is("get", desk.get(0, 0), Desks.MISSING);
        due.is("its VALUES", desk.look(0, 2), 8);
        desk.slot(1, 0, 2, 0);
        due.is("it does not come back", desk.get(0, 0), Desks.UNBOUND);
    }

    @Says("one that is not LOCAL now loses its VALUE")
    static void oneThatIsSharedNowLosesItsValue(Due due) {
        ClassDesk desk = behind();
        desk.put(0, 0, 50);
        desk.slot(2, 0, 3, 60);
        desk.become(0, 2);
        due.is("its VALUES", desk.look(0, 2), 8);
        due.is("SHARED", desk.get(0, 0), 60);
        desk.become(0, 1);
        due.is("the INITIAL, not what it was", desk.get(0, 0), 5);
    }

    @Says("others keep theirs")
    static void oneThatStaysLocalKeepsItsValue(Due due) {
        ClassDesk desk = behind();
        desk.put(0, 0, 50);
        desk.slot(1, 0, 1, 6);
        due.is("another INITIAL", desk.get(0, 0), 50);
        desk.slot(1, 0, 2, 0);
        due.is("without INITIAL", desk.get(0, 0), 50);
        desk.slot(2, 0, 1, 7);
        desk.become(0, 2);
        due.is("LOCAL by another class", desk.get(0, 0), 50);
        due.is("names that came", desk.count(7), 1);
    }

    @Says("others keep theirs")
    static void oneThatWentAndCameUntouchedKeepsItsValue(Due due) {
        ClassDesk desk = behind();
        desk.put(0, 0, 50);
        desk.slot(1, 0, 0, 0);
        desk.slot(1, 0, 3, 1);
        desk.slot(1, 0, 1, 2);
        due.is("it was not TOUCHED in between", desk.get(0, 0), 50);
    }

    @Says("others keep theirs")
    static void oneWithoutAValueStaysWithout(Due due) {
        ClassDesk desk = behind();
        desk.unbind(0, 0);
        desk.slot(1, 0, 1, 2);
        desk.slot(1, 4, 1, 2);
        due.is("no INITIAL for what was in its LAYOUT", desk.get(0, 0), Desks.UNBOUND);
        due.is("its VALUES", desk.look(0, 2), 8 + 16);
    }

    @Says("then its LAYOUT is what is LOCAL now.")
    static void thenItsLayoutIsWhatIsLocalNow(Due due) {
        ClassDesk desk = behind();
        desk.slot(1, 0, 3, 0);
        desk.slot(0, 5, 2, 0);
        desk.get(0, 0);
        due.is("its LAYOUT", desk.look(0, 1), 8 + 32);
        desk.get(0, 0);
        due.is("TOUCHED again it is the same", desk.look(0, 1), 8 + 32);
        due.is("changed once", desk.count(7), 1);
    }
}
