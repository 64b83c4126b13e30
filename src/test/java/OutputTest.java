/** The sentences of promises 11, 12 and 13: data, write, reset. */
public final class OutputTest {
    private static final int LOWEST = Integer.MIN_VALUE;
    private static final int HIGHEST = Integer.MAX_VALUE;

    public static void main(String[] args) {
        Checks.section("Promise 11: data");
        Checks.sentence("The lowest count 1 .. 8 bytes of the number are put to the DATA that wait, highest first.",
            OutputTest::dataBytes);
        Checks.sentence("Answers how many wait.", OutputTest::dataAnswers);
        Checks.section("Promise 12: write");
        Checks.sentence("FLUSH;", OutputTest::writeFlushes);
        Checks.sentence("then an object (-1: NULL) is WRITTEN, UNSHARED if so said.", OutputTest::writes);
        Checks.sentence("ABORT: ABORTED.", OutputTest::writeAborts);
        Checks.sentence("Else answers the STREAM's length.", OutputTest::writeAnswers);
        Checks.section("Promise 13: reset");
        Checks.sentence("FLUSH; then 79 is written", OutputTest::resets);
        Checks.sentence("and no handles are left.", OutputTest::resetHandles);
        Checks.sentence("Answers the STREAM's length.", OutputTest::resetAnswers);
        Checks.end();
    }

    private static void dataBytes() {
        GraphWriter x = new GraphWriter();
        for (int count : new int[] {LOWEST, -1, 0, 9, 10, HIGHEST}) {
            Checks.due("data of " + count, x.data(-1, count), -1);
        }
        Checks.due("none wait", x.count(1), 0);
        for (int count = 1; count <= 8; count++) {
            x.data(0x0123456789ABCDEFL, count);
        }
        x.data(0x80, 1);
        x.data(Long.MIN_VALUE, 8);
        x.data(-1, 3);
        x.reset();
        Checks.dueStream("the lowest bytes", x, "77 30 EF CDEF ABCDEF 89ABCDEF 6789ABCDEF 456789ABCDEF 23456789ABCDEF "
            + "0123456789ABCDEF 80 8000000000000000 FFFFFF 79");
    }

    private static void dataAnswers() {
        GraphWriter x = new GraphWriter();
        int waiting = 0;
        for (int count = 1; count <= 8; count++) {
            waiting += count;
            Checks.due("data of " + count, x.data(0, count), waiting);
            Checks.due("count(1)", x.count(1), waiting);
        }
        Checks.due("refused", x.data(0, 9), -1);
        Checks.due("36 wait", x.count(1), 36);
        x.reset();
        Checks.due("behind a flush", x.data(0, 2), 2);
        for (int over = 0; over < 8; over++) {
            GraphWriter y = new GraphWriter();
            for (int i = 0; i < 30; i++) {
                y.data(0, 8);
            }
            y.data(0, 7);
            Checks.due("247 and " + over, over == 0 ? y.count(1) : y.data(0, over), 247 + over);
            Checks.due("eight more", y.data(0, 8), over);
            Checks.due("count(1)", y.count(1), over);
        }
    }

    private static void writeFlushes() {
        GraphWriter x = new GraphWriter();
        x.define(0, 0, -1, 0);
        x.text(0x41);
        x.instance(0);
        x.data(0xAA, 1);
        Checks.due("write refused", x.write(2, false), -1);
        Checks.due("it waits still", x.count(1), 1);
        x.write(-1, false);
        x.data(0xBB, 1);
        x.write(0, false);
        x.data(0xCC, 1);
        x.write(0, false);
        x.data(0xDD, 1);
        x.write(1, false);
        x.write(-1, true);
        Checks.dueStream("before what is written", x, "77 01 AA 70 77 01 BB 74 0001 41 77 01 CC 71 007E0000 "
            + "77 01 DD 7B 79 74 0001 41 79 70");
        Checks.due("none wait", x.count(1), 0);
    }

    private static void writes() {
        GraphWriter x = new GraphWriter();
        for (int object : new int[] {LOWEST, -2, 0, 1, 12, HIGHEST}) {
            Checks.due("write of object " + object, x.write(object, false), -1);
            Checks.due("unshared", x.write(object, true), -1);
        }
        Checks.dueWritten("NULL", x, -1, false, "70");
        Checks.dueWritten("NULL unshared", x, -1, true, "70");
        for (int object = 0; object < 12; object++) {
            x.text(0x41 + object);
        }
        for (int object = 0; object < 12; object++) {
            String text = String.format("74 0001 %02X", 0x41 + object);
            Checks.dueWritten("object " + object, x, object, false, text);
            Checks.dueWritten("shared", x, object, false, Bytes.back(2 * object));
            Checks.dueWritten("unshared", x, object, true, text);
        }
        Checks.due("object 12", x.write(12, false), -1);
        GraphWriter y = new GraphWriter();
        y.text(0x41);
        Checks.dueWritten("unshared first", y, 0, true, "74 0001 41");
        Checks.dueWritten("then shared", y, 0, false, "71 007E0000");
    }

    private static void writeAborts() {
        GraphWriter x = new GraphWriter();
        x.define(0, 0, -1, 0);
        x.define(1, 1, -1, 0);
        x.field(1, 0, 7, false);
        x.field(1, 1, 7, true);
        x.instance(0);
        x.instance(1);
        x.array(true, 1);
        x.text(0x41);
        Checks.due("a plain instance", x.write(0, false), -3);
        Checks.due("unshared", x.write(0, true), -3);
        Checks.due("no plain one inside", x.write(1, false) > 0 ? 1 : 0, 1);
        x.set(1, 1, 0);
        Checks.due("a plain one in a transient slot", x.write(1, true) > 0 ? 1 : 0, 1);
        x.set(1, 0, 0);
        Checks.due("one with a handle", x.write(1, false) > 0 ? 1 : 0, 1);
        x.set(2, 0, 1);
        Checks.due("and inside refs", x.write(2, false) > 0 ? 1 : 0, 1);
        Checks.due("a plain one inside", x.write(1, true), -3);
        Checks.due("inside refs", x.write(2, false), -3);
        Checks.due("again", x.write(2, false), -3);
        x.replace(0, 3);
        Checks.due("a replaced plain one", x.write(0, false) > 0 ? 1 : 0, 1);
        x.replace(0, -1);
        x.replace(1, 0);
        Checks.due("one replaced by a plain one", x.write(1, false), -3);
        Checks.due("the length grew all the same", x.byteAt(x.count(0) - 1), 0x79);
    }

    private static void writeAnswers() {
        GraphWriter x = new GraphWriter();
        x.text(0x4142);
        Checks.due("NULL", x.write(-1, false), 5);
        Checks.due("a text", x.write(0, false), 10);
        Checks.due("a reference", x.write(0, false), 15);
        Checks.due("count(0)", x.count(0), 15);
        x.data(0, 7);
        Checks.due("with a block", x.write(0, true), 15 + 9 + 5);
        x.data(0, 8);
        Checks.due("count(0) leaves out what waits", x.count(0), 29);
        Checks.fillTo(x, 1399);
        Checks.due("the longest", x.write(-1, false), 1400);
    }

    private static void resets() {
        GraphWriter x = new GraphWriter();
        x.reset();
        x.reset();
        x.data(0x0A0B, 2);
        x.reset();
        x.reset();
        Checks.dueStream("resets", x, "79 79 77 02 0A0B 79 79");
        Checks.due("none wait", x.count(1), 0);
    }

    private static void resetHandles() {
        GraphWriter x = new GraphWriter();
        x.define(0, 1, -1, 0);
        x.field(0, 0, 6, false);
        x.field(0, 1, 7, false);
        x.define(1, 3, -1, 0);
        x.instance(0);
        x.text(0x41);
        x.array(false, 0);
        x.array(true, 0);
        x.constant(1, 0);
        String[] due = {"73 72 0001 41 0000000000000000 02 0002 5B 0001 61" + Bytes.INTS_TEXT + "4C 0001 62"
            + Bytes.OBJECT_TEXT + "78 70 70 70", "74 0001 41", "75" + Bytes.INTS + "00000000",
            "75" + Bytes.REFS + "00000000", "7E" + Bytes.bare(1, "12") + Bytes.ENUM + "74 0001 61"};
        for (int object = 0; object < 5; object++) {
            x.write(object, false);
        }
        Checks.due("handles", x.count(2), 13);
        x.reset();
        Checks.due("no handles", x.count(2), 0);
        for (int object = 0; object < 5; object++) {
            Checks.due("handle of " + object, x.handle(object), -1);
        }
        for (int object = 4; object >= 0; object--) {
            Checks.dueWritten("anew " + object, x, object, false, due[object]);
        }
        Checks.due("handles anew", x.count(2), 13);
        Checks.due("from 0 anew", x.handle(4), 2);
    }

    private static void resetAnswers() {
        GraphWriter x = new GraphWriter();
        Checks.due("of a new one", x.reset(), 5);
        Checks.due("again", x.reset(), 6);
        x.data(0, 3);
        Checks.due("with a block", x.reset(), 12);
        Checks.due("count(0)", x.count(0), 12);
        Checks.fillTo(x, 1399);
        Checks.due("the longest", x.reset(), 1400);
    }
}
