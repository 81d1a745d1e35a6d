/** What the document's Terms say of SLOTS. */
@Says("Terms")
public final class TermsSlotsTest {
    public static void main(String[] args) {
        Sentences.run(TermsSlotsTest.class);
    }

    @Says("SLOTS have names 0..5.")
    static void sixNamesEachWithAnIntOfItsOwn(Due due) {
        ClassDesk desk = new ClassDesk();
        for (int name = 0; name <= 5; name++) {
            due.is("slot, name " + name, desk.slot(0, name, name % 2 == 0 ? 1 : 3, 10 + name), 1);
        }
        desk.make(0);
        for (int name = 0; name <= 5; name++) {
            due.is("get(0, " + name + ")", desk.get(0, name), 10 + name);
            due.is("put(0, " + name + ")", desk.put(0, name, 20 + name), 1);
        }
        for (int name = 0; name <= 5; name++) {
            due.is("get(0, " + name + ")", desk.get(0, name), 20 + name);
        }
        for (int name : Desks.outside(0, 5)) {
            due.is("slot, name " + name, desk.slot(0, name, 1, 0), Desks.REFUSED);
        }
    }

    @Says("A class has for each name no direct SLOT, or one")
    static void noDirectSlotOrOne(Due due) {
        ClassDesk desk = new ClassDesk();
        desk.make(0);
        due.is("none", desk.get(0, 4), Desks.MISSING);
        desk.slot(0, 4, 3, 1);
        desk.slot(0, 4, 1, 2);
        // There is one: the later took the place of the earlier.
        due.is("the later one", desk.get(0, 4), 2);
        due.is("it is LOCAL", desk.look(0, 1), 16);
        desk.slot(0, 4, 0, 0);
        due.is("none again", desk.get(0, 4), Desks.MISSING);
        due.is("has(0, 4)", desk.has(0, 4), -1);
    }

    @Says("LOCAL with an INITIAL int, LOCAL without, or SHARED with an int of its own.")
    static void localWithAnInitialIsEachOnesOwn(Due due) {
        ClassDesk desk = new ClassDesk();
        desk.slot(0, 0, 1, Desks.LEAST);
        desk.make(0);
        desk.make(0);
        desk.put(0, 0, 6);
        due.is("its own", desk.get(0, 0), 6);
        due.is("another's", desk.get(1, 0), Desks.LEAST);
    }

    @Says("LOCAL with an INITIAL int, LOCAL without, or SHARED with an int of its own.")
    static void localWithoutHasNoValueAtFirst(Due due) {
        ClassDesk desk = new ClassDesk();
        desk.slot(0, 0, 2, 7);
        desk.make(0);
        due.is("no VALUE", desk.get(0, 0), Desks.UNBOUND);
        due.is("it is LOCAL", desk.look(0, 1), 1);
        due.is("put", desk.put(0, 0, 8), 1);
        due.is("its VALUE", desk.get(0, 0), 8);
    }

    @Says("SHARED with an int of its own.")
    static void sharedIsOneIntOfTheClassThatHasIt(Due due) {
        ClassDesk desk = Desks.chain(3);
        desk.slot(0, 0, 3, 5);
        desk.slot(1, 0, 3, 6);
        due.is("class 2 HAS that of class 1", desk.put(2, 0, 7), 1);
        due.is("class 1", desk.get(1, 0), 7);
        due.is("class 0 has an int of its own", desk.get(0, 0), 5);
        due.is("SHARED is not LOCAL", desk.look(2, 1), 0);
    }

    @Says("A class HAS of each name the direct SLOT of the first class in its PRECEDENCE that has one.")
    static void thatOfTheFirstInItsPrecedence(Due due) {
        ClassDesk desk = new ClassDesk();
        desk.define(1, 0, -1, -1);
        desk.define(2, 0, -1, -1);
        desk.define(3, 1, 2, -1);
        due.is("no class has one", desk.has(3, 5), -1);
        desk.slot(0, 5, 1, 0);
        due.is("the last in its PRECEDENCE", desk.has(3, 5), 0);
        desk.slot(2, 5, 3, 2);
        due.is("2 stands before 0", desk.has(3, 5), 2);
        desk.slot(1, 5, 2, 0);
        due.is("1 stands before 2", desk.has(3, 5), 1);
        desk.define(3, 2, 1, -1);
        due.is("2 stands before 1 now", desk.has(3, 5), 2);
        desk.slot(3, 5, 1, 3);
        due.is("the first is the class itself", desk.has(3, 5), 3);
        due.is("a class above does not see it", desk.has(2, 5), 2);
    }

    @Says("A class HAS of each name the direct SLOT of the first class in its PRECEDENCE that has one.")
    static void eachNameIsLookedForByItself(Due due) {
        ClassDesk desk = Desks.chain(3);
        desk.slot(0, 0, 3, 10);
        desk.slot(1, 1, 3, 11);
        desk.slot(2, 2, 3, 12);
        due.is("get(2, 0)", desk.get(2, 0), 10);
        due.is("get(2, 1)", desk.get(2, 1), 11);
        due.is("get(2, 2)", desk.get(2, 2), 12);
        due.is("get(2, 3)", desk.get(2, 3), Desks.MISSING);
        due.is("get(1, 2)", desk.get(1, 2), Desks.MISSING);
    }
}
