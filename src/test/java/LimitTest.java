/** The stream's limit of 1400 bytes: data, write and reset answer FULL and change nothing. */
public final class LimitTest {
    public static void main(String[] args) {
        writeToTheLimit();
        resetToTheLimit();
        dataToTheLimit();
        dataWithABlocksHead();
        flushOverTheLimit();
        writeOverTheLimit();
        unsharedOverTheLimit();
        abortToTheLimit();
        Checks.end();
    }

    private static void dueUnchanged(String what, GraphWriter x, String before) {
        Checks.due("after " + what, Checks.face(x), before);
    }

    private static void writeToTheLimit() {
        GraphWriter x = new GraphWriter();
        Checks.fillTo(x, 1399);
        Checks.due("the last byte", x.write(-1, false), 1400);
        Checks.due("one more", x.write(-1, false), -2);
        Checks.due("refused before full", x.write(0, false), -1);
        Checks.due("length", x.count(0), 1400);
        Checks.due("byteAt(1399)", x.byteAt(1399), 0x70);
        Checks.due("byteAt(1400)", x.byteAt(1400), -1);
    }

    private static void resetToTheLimit() {
        GraphWriter x = new GraphWriter();
        x.text(0x41);
        Checks.fillTo(x, 1395);
        x.write(0, false);
        Checks.due("the last byte", x.reset(), 1400);
        GraphWriter y = new GraphWriter();
        y.text(0x41);
        Checks.fillTo(y, 1396);
        y.write(0, false);
        String before = Checks.face(y);
        Checks.due("reset when full", y.reset(), -2);
        dueUnchanged("reset when full", y, before);
        Checks.due("its handle stays", y.handle(0), 0);
    }

    private static void dataToTheLimit() {
        GraphWriter x = new GraphWriter();
        Checks.fillTo(x, 1391);
        Checks.due("data", x.data(0x0102030405060708L, 8), 8);
        Checks.due("too many", x.data(1, 2), -2);
        Checks.due("refused before full", x.data(1, 9), -1);
        Checks.due("the last one", x.data(9, 1), 9);
        Checks.due("none more", x.data(9, 1), -2);
        Checks.due("waiting", x.count(1), 9);
        Checks.due("length", x.count(0), 1391);
        Checks.due("no room for the block's head", x.reset(), -2);
        Checks.due("no room to write", x.write(-1, false), -2);
        Checks.due("they wait still", x.count(1), 9);
    }

    /** With 254 waiting, one more is flushed with two bytes before the block. */
    private static void dataWithABlocksHead() {
        for (int over = 0; over < 3; over++) {
            GraphWriter x = new GraphWriter();
            Checks.fillTo(x, 1400 - 257 + over);
            for (int i = 0; i < 31; i++) {
                x.data(-1, 8);
            }
            Checks.due("254 wait", x.data(0x010203040506L, 6), 254);
            Checks.due("the 255th", x.data(7, 1), over == 0 ? 0 : -2);
            Checks.due("length", x.count(0), over == 0 ? 1400 : 1143 + over);
            Checks.due("waiting", x.count(1), over == 0 ? 0 : 254);
            if (over == 0) {
                Checks.dueEnd("the last block", x, "FF 01020304050607");
            }
        }
        GraphWriter y = new GraphWriter();
        Checks.fillTo(y, 1400 - 257 - 3);
        for (int i = 0; i < 31; i++) {
            y.data(-1, 8);
        }
        Checks.due("more than the block and three", y.data(0, 8), 1);
        Checks.due("length", y.count(0), 1397);
        Checks.due("two more", y.data(0, 2), 3);
        Checks.due("none more", y.data(0, 1), -2);
    }

    private static void flushOverTheLimit() {
        GraphWriter x = new GraphWriter();
        x.text(0x41);
        Checks.fillTo(x, 1389);
        x.write(0, false);
        x.data(0x1122, 2);
        Checks.due("a reference behind the data", x.write(0, false), -2);
        Checks.due("they wait still", x.count(1), 2);
        Checks.due("length", x.count(0), 1393);
        Checks.due("data stay as they were", x.reset(), 1398);
        Checks.dueEnd("flushed at last", x, "74 0001 41 77 02 1122 79");
    }

    /** All that a call would have written and given is gone, not only its last part. */
    private static void writeOverTheLimit() {
        GraphWriter x = new GraphWriter();
        x.define(0, 1, -1, 0);
        x.field(0, 0, 7, false);
        x.define(1, 3, -1, 0);
        x.instance(0);
        x.constant(1, 0);
        x.array(true, 2);
        x.text(0x41);
        x.set(0, 0, 2);
        x.set(2, 0, 1);
        x.set(2, 1, 0);
        int whole = x.write(0, false) - 4;
        x.reset();
        Checks.fillTo(x, 1400 - whole + 1 - 4);
        x.write(3, false);
        String before = Checks.face(x);
        Checks.due("one byte over", x.write(0, false), -2);
        dueUnchanged("one byte over", x, before);
        Checks.due("what fits is written", x.write(1, false) > 0 ? 1 : 0, 1);
        Checks.due("its handle", x.handle(1), 3);
    }

    private static void unsharedOverTheLimit() {
        GraphWriter x = new GraphWriter();
        x.text(0x41);
        Checks.fillTo(x, 1393);
        x.write(0, false);
        Checks.due("unshared", x.write(0, true), -2);
        Checks.due("handle", x.handle(0), 0);
        Checks.due("handles", x.count(2), 1);
        Checks.due("null fits", x.write(-1, true), 1398);
    }

    private static void abortToTheLimit() {
        GraphWriter x = new GraphWriter();
        x.define(0, 0, -1, 0);
        x.instance(0);
        Checks.fillTo(x, 1393);
        Checks.due("abort to the limit", x.write(0, false), -3);
        Checks.due("length", x.count(0), 1400);
        for (int over = 1; over <= 7; over++) {
            GraphWriter y = new GraphWriter();
            y.define(0, 0, -1, 0);
            y.instance(0);
            y.text(0x41);
            Checks.fillTo(y, 1389 + over);
            y.write(1, false);
            String before = Checks.face(y);
            Checks.due("abort over the limit by " + over, y.write(0, false), -2);
            dueUnchanged("abort over the limit by " + over, y, before);
        }
    }
}
