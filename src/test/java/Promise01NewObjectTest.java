/** What a new object is. */
@Says("Promise 1: A new object")
public final class Promise01NewObjectTest {
    public static void main(String[] args) {
        Sentences.run(Promise01NewObjectTest.class);
    }

    @Says("Class 0 alone")
    static void class0Alone(Due due) {
        ClassDesk desk = new ClassDesk();
        due.is("count(0)", desk.count(0), 1);
        Desks.rowIs(due, desk, 0, 0);
        for (int c = 1; c <= 11; c++) {
            due.is("precedence(" + c + ", 0)", desk.precedence(c, 0), Desks.NONE);
            due.is("has(" + c + ", 0)", desk.has(c, 0), Desks.NONE);
        }
    }

    @Says("no SLOTS")
    static void noSlots(Due due) {
        ClassDesk desk = new ClassDesk();
        for (int name = 0; name <= 5; name++) {
            due.is("has(0, " + name + ")", desk.has(0, name), -1);
        }
        // Nor do classes have any when they are defined for the first time.
        desk.define(11, 0, -1, -1);
        for (int name = 0; name <= 5; name++) {
            due.is("has(11, " + name + ")", desk.has(11, name), -1);
        }
    }

    @Says("INSTANCES")
    static void noInstances(Due due) {
        ClassDesk desk = new ClassDesk();
        due.is("count(1)", desk.count(1), 0);
        for (int i = 0; i <= 11; i++) {
            due.is("look(" + i + ", 0)", desk.look(i, 0), Desks.NONE);
            due.is("get(" + i + ", 0)", desk.get(i, 0), Desks.ERROR + Desks.NONE);
        }
        due.is("the first one that is made", desk.make(0), 0);
    }

    @Says("GENERICS' PARAMETERS")
    static void noParameters(Due due) {
        ClassDesk desk = new ClassDesk();
        desk.make(0);
        for (int g = 0; g <= 4; g++) {
            Desks.method(due, desk, Desks.NONE, g, 0, 0, 0, 0);
            Desks.call(due, desk, Desks.ERROR + Desks.NONE, g, 0, 0);
        }
    }

    @Says("METHODS")
    static void noMethods(Due due) {
        ClassDesk desk = new ClassDesk();
        due.is("count(2)", desk.count(2), 0);
        for (int m = 0; m <= 15; m++) {
            due.is("remove(" + m + ")", desk.remove(m), Desks.NONE);
        }
        for (int g = 0; g <= 4; g++) {
            due.is("generic(" + g + ", 1)", desk.generic(g, 1), 0);
        }
    }

    @Says("empty BODIES.")
    static void emptyBodies(Due due) {
        ClassDesk desk = new ClassDesk();
        for (int b = 0; b <= 7; b++) {
            due.is("clear(" + b + ")", desk.clear(b), 0);
        }
        for (int b = 0; b <= 7; b++) {
            due.is("the first step of BODY " + b, desk.step(b, Desks.SAY, 0), 1);
        }
    }

    @Says("empty BODIES.")
    static void nothingWasDoneYet(Due due) {
        ClassDesk desk = new ClassDesk();
        for (int what = 3; what <= 9; what++) {
            due.is("count(" + what + ")", desk.count(what), 0);
        }
        due.is("noted(0)", desk.noted(0), Desks.NONE);
    }

    @Says("Class 0 alone")
    static void oneObjectDoesNotSeeAnother(Due due) {
        ClassDesk busy = Desks.busy();
        ClassDesk fresh = new ClassDesk();
        due.is("count(0)", fresh.count(0), 1);
        fresh.slot(0, 0, 3, 99);
        due.is("the busy one has no such SLOT", busy.has(0, 0), -1);
    }
}
