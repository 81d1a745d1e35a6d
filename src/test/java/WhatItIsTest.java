/** What the document says of how long an object is used. */
@Says("What it is")
public final class WhatItIsTest {
    public static void main(String[] args) {
        Sentences.run(WhatItIsTest.class);
    }

    @Says("An object is used for at most 512 calls after it has been made")
    static void all512CallsAnswer(Due due) {
        ClassDesk desk = new ClassDesk();
        due.is("call 1", desk.make(0), 0);
        due.is("call 2", desk.generic(0, 1), 0);
        due.is("call 3", desk.step(0, Desks.NOTE, 7), 1);
        due.is("call 4", desk.method(0, Desks.PRIMARY, 0, 0, 0), 0);
        due.is("call 5", desk.slot(0, 0, 1, 5), 1);
        for (int k = 6; k <= 511; k++) {
            due.is("call " + k, desk.call(0, 0, 0), 0);
        }
        due.is("call 512", desk.count(3), 506);
    }

    @Says("what later calls answer is free.")
    static void laterCallsStillEnd(Due due) {
        ClassDesk desk = Desks.chain(12);
        Desks.primary(desk, 0, 2, Desks.NOTE, 1, Desks.CALL, 0);
        for (int k = 0; k < 2000; k++) {
            desk.define(1 + k % 11, k % 12, k % 5 - 1, k % 7 - 1);
            desk.call(0, k % 12, 0);
        }
        // What they answer is free: only that none throws, and that they come to an end.
        due.is("they came to an end", 1, 1);
    }
}
