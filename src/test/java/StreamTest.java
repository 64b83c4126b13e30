/** The sentences of "Terms" on the STREAM, its HANDLES, and the DATA that wait. */
public final class StreamTest {
    public static void main(String[] args) {
        Checks.section("Terms");
        Checks.sentence("STREAM. It begins with AC ED 00 05.", StreamTest::begins);
        Checks.sentence("HANDLES: what was given one, in order, from 0;", StreamTest::handlesInOrder);
        Checks.sentence("a class, an object or the TYPE TEXT of type 6 or 7.", StreamTest::whatHasHandles);
        Checks.sentence("DATA: bytes that wait, none at first.", StreamTest::noneAtFirst);
        Checks.sentence("To FLUSH: if n bytes wait, 77, n as one byte, and they are written, and none wait any more.",
            StreamTest::flush);
        Checks.sentence("When 255 wait there is a FLUSH at once.", StreamTest::flushAtOnce);
        Checks.end();
    }

    private static void begins() {
        Checks.due("a new stream", Checks.hex(new GraphWriter(), 0), "ACED0005");
        GraphWriter x = new GraphWriter();
        x.write(-1, false);
        x.reset();
        Checks.due("a used stream", Checks.hex(x, 0), "ACED00057079");
    }

    private static void handlesInOrder() {
        GraphWriter x = new GraphWriter();
        for (int object = 0; object < 12; object++) {
            x.text(0x41 + object);
        }
        Checks.due("none at first", x.count(2), 0);
        for (int i = 0; i < 12; i++) {
            int object = (5 * i + 3) % 12;
            x.write(object, false);
            Checks.due("handle of " + object, x.handle(object), i);
            Checks.due("how many", x.count(2), i + 1);
        }
        x.reset();
        x.write(7, false);
        Checks.due("from 0 again after a reset", x.handle(7), 0);
        Checks.due("one again", x.count(2), 1);
    }

    /** All six classes, those of arrays and the one above constants, both type texts, all objects and names. */
    private static void whatHasHandles() {
        GraphWriter x = new GraphWriter();
        for (int number = 0; number < 5; number++) {
            x.define(number, 1, -1, 0);
        }
        x.define(5, 3, -1, 0);
        x.field(4, 0, 6, false);
        x.field(4, 1, 7, false);
        for (int number = 0; number < 5; number++) {
            x.instance(number);
        }
        x.array(false, 0);
        x.array(true, 0);
        for (int object = 7; object < 12; object++) {
            x.constant(5, object);
        }
        // Class F and the one above it, then a constant and its name; four constants more with a name each;
        // two arrays with a class each; class E with two type texts, then four classes, each with an instance.
        int[] due = {27, 25, 23, 21, 19, 15, 13, 10, 8, 6, 4, 2};
        for (int object = 11; object >= 0; object--) {
            x.write(object, false);
            Checks.due("handle of " + object, x.handle(object), due[object]);
        }
        Checks.due("all handles", x.count(2), 28);
        x.write(-1, false);
        x.write(0, false);
        Checks.due("none for NULL and a reference", x.count(2), 28);
    }

    private static void noneAtFirst() {
        GraphWriter x = new GraphWriter();
        Checks.due("waiting at first", x.count(1), 0);
        Checks.due("the first of them", x.data(5, 1), 1);
        Checks.due("waiting", x.count(1), 1);
        Checks.due("the stream's length", x.count(0), 4);
    }

    private static void flush() {
        GraphWriter x = new GraphWriter();
        Checks.due("write with none waiting", x.write(-1, false), 5);
        Checks.due("reset with none waiting", x.reset(), 6);
        x.data(0xAB, 1);
        Checks.due("write with one waiting", x.write(-1, false), 10);
        Checks.due("none wait any more", x.count(1), 0);
        x.data(0xCDEF, 2);
        Checks.due("reset with two waiting", x.reset(), 15);
        Checks.due("none wait any more", x.count(1), 0);
        Checks.due("they are not written again", x.reset(), 16);
        Checks.dueStream("blocks", x, "70 79 77 01 AB 70 77 02 CDEF 79 79");
        GraphWriter y = new GraphWriter();
        for (int i = 0; i < 127; i++) {
            y.data(0x8000 + i, 2);
        }
        Checks.due("write with 254 waiting", y.write(-1, false), 4 + 2 + 254 + 1);
        Checks.due("none wait any more", y.count(1), 0);
        Checks.due("the block's sign", y.byteAt(4), 0x77);
        Checks.due("its length, as one byte", y.byteAt(5), 0xFE);
        for (int i = 0; i < 127; i++) {
            Checks.due("byte " + 2 * i, y.byteAt(6 + 2 * i), 0x80);
            Checks.due("byte " + (2 * i + 1), y.byteAt(7 + 2 * i), i);
        }
    }

    private static void flushAtOnce() {
        GraphWriter x = new GraphWriter();
        dueWaiting254(x, 4);
        Checks.due("the 255th", x.data(0x77, 1), 0);
        Checks.due("none wait", x.count(1), 0);
        Checks.due("a whole block", x.count(0), 4 + 2 + 255);
        Checks.due("its sign", x.byteAt(4), 0x77);
        Checks.due("its length, as one byte", x.byteAt(5), 0xFF);
        Checks.dueEnd("its end", x, "18 001234567890 77");
        dueWaiting254(x, 261);
        Checks.due("eight at once, the first of them the 255th", x.data(0x0102030405060708L, 8), 7);
        Checks.due("seven wait", x.count(1), 7);
        Checks.due("two whole blocks", x.count(0), 4 + 2 * 257);
        Checks.dueEnd("the second's end", x, "18 001234567890 01");
        x.reset();
        Checks.dueEnd("the seven", x, "90 01 77 07 02030405060708 79");
    }

    private static void dueWaiting254(GraphWriter x, int length) {
        for (int i = 1; i <= 31; i++) {
            Checks.due("data " + i, x.data(0x1112131415161718L, 8), 8 * i);
        }
        Checks.due("254 wait", x.data(0x1234567890L, 6), 254);
        Checks.due("nothing is flushed yet", x.count(0), length);
    }
}
