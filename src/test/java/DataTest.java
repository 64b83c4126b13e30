/** Promises 11, 13 and 14: data, reset, byteAt. */
public final class DataTest {
    public static void main(String[] args) {
        numbers();
        bytesThatWait();
        fullBlocks();
        resets();
        places();
        Checks.end();
    }

    private static void numbers() {
        GraphWriter x = new GraphWriter();
        Checks.due("data of -1", x.data(1, -1), -1);
        Checks.due("data of 0", x.data(1, 0), -1);
        Checks.due("data of 9", x.data(1, 9), -1);
        Checks.due("none wait", x.count(1), 0);
        Checks.due("data of 1", x.data(1, 1), 1);
        Checks.due("data of 8", x.data(1, 8), 9);
    }

    private static void bytesThatWait() {
        GraphWriter x = new GraphWriter();
        for (int count = 1; count <= 8; count++) {
            x.data(0x0123456789ABCDEFL, count);
        }
        Checks.due("waiting data", x.count(1), 36);
        Checks.due("the stream without them", x.count(0), 4);
        Checks.due("no byte of them", x.byteAt(4), -1);
        Checks.due("write(-1)", x.write(-1, false), 4 + 2 + 36 + 1);
        Checks.due("none wait", x.count(1), 0);
        Checks.dueStream("flushed data", x, "77 24 EF CDEF ABCDEF 89ABCDEF 6789ABCDEF 456789ABCDEF 23456789ABCDEF "
            + "0123456789ABCDEF 70");
        x.write(-1, false);
        Checks.dueEnd("no empty block", x, "EF 70 70");
    }

    private static void fullBlocks() {
        GraphWriter x = new GraphWriter();
        for (int i = 1; i <= 31; i++) {
            Checks.due("data " + i, x.data(-1, 8), 8 * i);
        }
        Checks.due("254 wait", x.data(0x1234567890L, 6), 254);
        Checks.due("nothing is flushed", x.count(0), 4);
        Checks.due("255 are flushed at once", x.data(0x77, 1), 0);
        Checks.due("length", x.count(0), 4 + 2 + 255);
        Checks.dueEnd("block", x, "FF 001234567890 77");
        Checks.due("block's sign", x.byteAt(4), 0x77);
        Checks.due("block's length", x.byteAt(5), 255);
        for (int i = 1; i <= 31; i++) {
            x.data(-1, 8);
        }
        Checks.due("over the end of a block", x.data(0x0102030405060708L, 8), 1);
        Checks.dueEnd("second block", x, "FF 01020304050607");
        x.reset();
        Checks.dueEnd("the one that was over", x, "07 77 01 08 79");
    }

    private static void resets() {
        GraphWriter x = new GraphWriter();
        x.define(0, 1, -1, 0);
        x.instance(0);
        x.text(0x41);
        Checks.due("reset of a new one", x.reset(), 5);
        Checks.due("again", x.reset(), 6);
        x.write(0, false);
        x.write(1, false);
        Checks.due("handles", x.count(2), 3);
        int before = x.count(0);
        x.data(0x0A0B, 2);
        Checks.due("reset", x.reset(), before + 5);
        Checks.dueStreamFrom("flush and reset", x, before, "77 02 0A0B 79");
        Checks.due("no handles", x.count(2), 0);
        Checks.due("no handle of 0", x.handle(0), -1);
        Checks.due("no handle of 1", x.handle(1), -1);
        before = x.count(0);
        x.write(1, false);
        x.write(0, false);
        Checks.dueStreamFrom("written anew", x, before, "74 0001 41 73 72 0001 41 0000000000000000 02 0000 78 70");
        Checks.due("handle anew of 1", x.handle(1), 0);
        Checks.due("handle anew of 0", x.handle(0), 2);
        Checks.due("handles anew", x.count(2), 3);
    }

    private static void places() {
        GraphWriter x = new GraphWriter();
        int[] head = {0xAC, 0xED, 0x00, 0x05};
        for (int place = 0; place < 4; place++) {
            Checks.due("byteAt(" + place + ")", x.byteAt(place), head[place]);
        }
        Checks.due("byteAt(-1)", x.byteAt(-1), -1);
        Checks.due("byteAt(4)", x.byteAt(4), -1);
        Checks.due("byteAt(1400)", x.byteAt(1400), -1);
        Checks.due("byteAt(lowest)", x.byteAt(Integer.MIN_VALUE), -1);
        Checks.due("byteAt(highest)", x.byteAt(Integer.MAX_VALUE), -1);
        x.data(255, 1);
        Checks.due("byteAt of what waits", x.byteAt(4), -1);
        x.reset();
        Checks.due("byteAt(6)", x.byteAt(6), 255);
        Checks.due("byteAt(7)", x.byteAt(7), 0x79);
        Checks.due("byteAt(8)", x.byteAt(8), -1);
    }
}
