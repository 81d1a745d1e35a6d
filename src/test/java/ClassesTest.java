/** Promises 1 (a new object), 2 (define) and 15 (precedence). */
public final class ClassesTest {
    private static final Due due = new Due();

    public static void main(String[] args) {
        newObject();
        defineAnswersLength();
        defineRefuses();
        defineRefusesWhatIsNotThere();
        defineRefusesCycles();
        defineRefusesWithoutOrder();
        refusalsLeaveAllAsItWas();
        furthestBackGoesFirst();
        definedAnew();
        slotsStay();
        allTwelve();
        precedence();
        due.end();
    }

    private static void define(ClassDesk desk, long want, int c, int s, int t, int u) {
        due.is("define(" + c + ", " + s + ", " + t + ", " + u + ")", desk.define(c, s, t, u), want);
    }

    private static void rowIs(ClassDesk desk, int c, long... want) {
        for (int k = 0; k < want.length; k++) {
            due.is("precedence(" + c + ", " + k + ")", desk.precedence(c, k), want[k]);
        }
        due.is("precedence(" + c + ", " + want.length + ")", desk.precedence(c, want.length), ClassDesk.NONE);
    }

    private static void newObject() {
        ClassDesk desk = new ClassDesk();
        rowIs(desk, 0, 0);
        for (int what = 0; what < 10; what++) {
            due.is("count(" + what + ") when new", desk.count(what), what == 0 ? 1 : 0);
        }
        for (int c = 1; c < 12; c++) {
            due.is("precedence of class " + c + " when new", desk.precedence(c, 0), ClassDesk.NONE);
        }
        for (int name = 0; name < 6; name++) {
            due.is("has(0, " + name + ") when new", desk.has(0, name), -1);
        }
        due.is("look when new", desk.look(0, 0), ClassDesk.NONE);
        due.is("noted when new", desk.noted(0), ClassDesk.NONE);
        for (int m = 0; m < 16; m++) {
            due.is("remove when new", desk.remove(m), ClassDesk.NONE);
        }
        for (int b = 0; b < 8; b++) {
            due.is("clear when new", desk.clear(b), 0);
        }
        desk.make(0);
        for (int g = 0; g < 5; g++) {
            due.is("call when new", desk.call(g, 0, 0), ClassDesk.ERROR + ClassDesk.NONE);
            due.is("method when new", desk.method(g, 0, 0, 0, 0), ClassDesk.NONE);
        }
        ClassDesk other = new ClassDesk();
        other.define(1, 0, -1, -1);
        due.is("one object does not see another", desk.count(0), 1);
    }

    private static void defineAnswersLength() {
        ClassDesk desk = new ClassDesk();
        define(desk, 2, 1, 0, -1, -1);
        define(desk, 3, 2, 1, -1, -1);
        define(desk, 2, 11, 0, -1, -1);
        define(desk, 5, 3, 2, 11, -1);
        define(desk, 2, 4, 0, -1, -1);
        define(desk, 5, 5, 1, 11, 4);
        rowIs(desk, 5, 5, 1, 11, 4, 0);
        due.is("count(0)", desk.count(0), 7);
    }

    private static void defineRefuses() {
        ClassDesk desk = new ClassDesk();
        desk.define(1, 0, -1, -1);
        desk.define(2, 0, -1, -1);
        int refused = ClassDesk.REFUSED;
        define(desk, refused, 0, 1, -1, -1);
        define(desk, refused, -1, 0, -1, -1);
        define(desk, refused, 12, 0, -1, -1);
        define(desk, refused, Integer.MIN_VALUE, 0, -1, -1);
        define(desk, refused, Integer.MAX_VALUE, 0, -1, -1);
        define(desk, refused, 3, -1, -1, -1);
        define(desk, refused, 3, 12, -1, -1);
        define(desk, refused, 3, 0, -2, -1);
        define(desk, refused, 3, 0, 12, -1);
        define(desk, refused, 3, 1, 0, -2);
        define(desk, refused, 3, 1, 0, 12);
        define(desk, refused, 3, 0, -1, 12);
        define(desk, refused, 3, 0, -1, -2);
        define(desk, refused, 3, 1, 1, -1);
        define(desk, refused, 3, 1, 1, 0);
        define(desk, refused, 3, 1, 2, 1);
        define(desk, refused, 3, 1, 2, 2);
        define(desk, refused, 3, 3, 3, -1);
        define(desk, refused, 3, 9, 9, -1);
        due.is("count(0)", desk.count(0), 3);
        // Behind -1 there is none: neither the same, nor not there, nor above itself.
        define(desk, 2, 3, 0, -1, 0);
        define(desk, 2, 4, 0, -1, 9);
        define(desk, 2, 5, 0, -1, 5);
    }

    private static void defineRefusesWhatIsNotThere() {
        ClassDesk desk = new ClassDesk();
        desk.define(1, 0, -1, -1);
        define(desk, ClassDesk.NONE, 2, 9, -1, -1);
        define(desk, ClassDesk.NONE, 2, 1, 9, -1);
        define(desk, ClassDesk.NONE, 2, 1, 0, 9);
        define(desk, ClassDesk.NONE, 2, 2, 9, -1);
        define(desk, ClassDesk.NONE, 1, 1, 9, -1);
        due.is("count(0)", desk.count(0), 2);
    }

    private static void defineRefusesCycles() {
        ClassDesk desk = new ClassDesk();
        desk.define(1, 0, -1, -1);
        desk.define(2, 1, -1, -1);
        desk.define(3, 2, -1, -1);
        desk.define(4, 0, -1, -1);
        define(desk, ClassDesk.CYCLE, 5, 5, -1, -1);
        define(desk, ClassDesk.CYCLE, 5, 1, 5, -1);
        define(desk, ClassDesk.CYCLE, 1, 1, -1, -1);
        define(desk, ClassDesk.CYCLE, 1, 2, -1, -1);
        define(desk, ClassDesk.CYCLE, 1, 3, -1, -1);
        define(desk, ClassDesk.CYCLE, 1, 4, 3, -1);
        define(desk, ClassDesk.CYCLE, 1, 4, 0, 3);
        // CYCLE comes before ORDER: 0 before 4 alone would have no PRECEDENCE.
        define(desk, ClassDesk.CYCLE, 1, 0, 4, 3);
        due.is("count(0)", desk.count(0), 5);
        define(desk, 3, 1, 4, -1, -1);
        rowIs(desk, 3, 3, 2, 1, 4, 0);
    }

    private static void defineRefusesWithoutOrder() {
        ClassDesk desk = new ClassDesk();
        desk.define(1, 0, -1, -1);
        desk.define(2, 0, -1, -1);
        define(desk, ClassDesk.ORDER, 3, 0, 1, -1);
        define(desk, 3, 3, 1, 0, -1);
        define(desk, 4, 4, 1, 2, -1);
        define(desk, 4, 5, 2, 1, -1);
        define(desk, ClassDesk.ORDER, 6, 4, 5, -1);
        define(desk, ClassDesk.ORDER, 6, 1, 4, -1);
        // 7 is well by itself; a class below it would lose its PRECEDENCE.
        define(desk, 2, 7, 0, -1, -1);
        define(desk, 6, 8, 7, 4, -1);
        define(desk, 7, 9, 8, -1, -1);
        define(desk, ClassDesk.ORDER, 7, 5, -1, -1);
        // Between three SUPERS the first stands before the third, too.
        define(desk, 5, 10, 1, 7, 2);
        define(desk, ClassDesk.ORDER, 11, 10, 5, -1);
    }

    private static void refusalsLeaveAllAsItWas() {
        ClassDesk desk = new ClassDesk();
        desk.define(1, 0, -1, -1);
        desk.define(2, 0, -1, -1);
        desk.define(3, 1, 2, -1);
        desk.define(4, 3, -1, -1);
        define(desk, ClassDesk.ORDER, 2, 1, -1, -1);
        define(desk, ClassDesk.ORDER, 5, 1, 3, -1);
        define(desk, ClassDesk.CYCLE, 1, 4, -1, -1);
        define(desk, ClassDesk.NONE, 3, 2, 1, 6);
        define(desk, ClassDesk.REFUSED, 3, 2, 2, -1);
        due.is("count(0)", desk.count(0), 5);
        rowIs(desk, 2, 2, 0);
        rowIs(desk, 3, 3, 1, 2, 0);
        rowIs(desk, 4, 4, 3, 1, 2, 0);
        due.is("a class that was refused is not there", desk.make(5), ClassDesk.NONE);
        // Were the refused SUPERS still held, this would have another PRECEDENCE.
        define(desk, 6, 5, 4, -1, -1);
        rowIs(desk, 5, 5, 4, 3, 1, 2, 0);
    }

    private static void furthestBackGoesFirst() {
        ClassDesk desk = new ClassDesk();
        desk.define(1, 0, -1, -1);
        desk.define(2, 0, -1, -1);
        desk.define(3, 1, -1, -1);
        desk.define(4, 2, -1, -1);
        desk.define(5, 3, 4, -1);
        // 1 goes before 4, since its direct SUBCLASS 3 stands further back than 5.
        rowIs(desk, 5, 5, 3, 1, 4, 2, 0);
        // pie: apple, cinnamon; apple: fruit; cinnamon: spice; fruit, spice: food.
        ClassDesk pie = new ClassDesk();
        pie.define(1, 0, -1, -1);
        pie.define(2, 1, -1, -1);
        pie.define(3, 1, -1, -1);
        pie.define(4, 2, -1, -1);
        pie.define(5, 3, -1, -1);
        pie.define(6, 4, 5, -1);
        rowIs(pie, 6, 6, 4, 2, 5, 3, 1, 0);
        pie.define(7, 5, 4, -1);
        rowIs(pie, 7, 7, 5, 3, 4, 2, 1, 0);
        // The furthest direct SUBCLASS counts, not the first one: 2 has 8 and 3 below it.
        ClassDesk desk2 = new ClassDesk();
        desk2.define(1, 0, -1, -1);
        desk2.define(2, 0, -1, -1);
        desk2.define(3, 1, 2, -1);
        desk2.define(4, 0, -1, -1);
        desk2.define(8, 3, 4, 2);
        rowIs(desk2, 8, 8, 3, 1, 4, 2, 0);
    }

    private static void definedAnew() {
        ClassDesk desk = new ClassDesk();
        desk.define(1, 0, -1, -1);
        desk.define(2, 0, -1, -1);
        desk.define(3, 1, -1, -1);
        desk.define(4, 3, 2, -1);
        rowIs(desk, 4, 4, 3, 1, 2, 0);
        define(desk, 2, 3, 0, -1, -1);
        due.is("count(0)", desk.count(0), 5);
        rowIs(desk, 3, 3, 0);
        rowIs(desk, 4, 4, 3, 2, 0);
        define(desk, 3, 2, 1, -1, -1);
        rowIs(desk, 4, 4, 3, 2, 1, 0);
        // 1 is above no more, so it may go below.
        define(desk, 2, 2, 0, -1, -1);
        define(desk, 5, 1, 4, -1, -1);
        rowIs(desk, 1, 1, 4, 3, 2, 0);
    }

    private static void slotsStay() {
        ClassDesk desk = new ClassDesk();
        desk.define(1, 0, -1, -1);
        desk.define(2, 0, -1, -1);
        desk.slot(1, 0, 3, 41);
        desk.slot(1, 1, 1, 42);
        desk.define(1, 2, -1, -1);
        due.is("has(1, 0)", desk.has(1, 0), 1);
        desk.make(1);
        due.is("get(0, 0)", desk.get(0, 0), 41);
        due.is("get(0, 1)", desk.get(0, 1), 42);
    }

    private static void allTwelve() {
        ClassDesk desk = new ClassDesk();
        for (int c = 1; c < 12; c++) {
            define(desk, c + 1, c, c - 1, -1, -1);
        }
        due.is("count(0)", desk.count(0), 12);
        rowIs(desk, 11, 11, 10, 9, 8, 7, 6, 5, 4, 3, 2, 1, 0);
        define(desk, ClassDesk.CYCLE, 1, 11, -1, -1);
        define(desk, 2, 11, 0, -1, -1);
        rowIs(desk, 11, 11, 0);
        // 11 is below 9 no more, though its PRECEDENCE was longer once.
        define(desk, 3, 9, 11, -1, -1);
        rowIs(desk, 10, 10, 9, 11, 0);
    }

    private static void precedence() {
        ClassDesk desk = new ClassDesk();
        desk.define(1, 0, -1, -1);
        due.is("precedence(1, 0)", desk.precedence(1, 0), 1);
        due.is("precedence(1, 1)", desk.precedence(1, 1), 0);
        int[] wrong = {-1, 2, 12, 144, Integer.MIN_VALUE, Integer.MAX_VALUE};
        for (int k : wrong) {
            due.is("precedence(1, " + k + ")", desk.precedence(1, k), ClassDesk.NONE);
            due.is("precedence(" + k + ", 0)", desk.precedence(k, 0), ClassDesk.NONE);
        }
    }
}
