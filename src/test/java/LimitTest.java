import java.util.function.Supplier;

/** The sentence of "Terms" on the stream's limit of 1400 bytes, for each of the three calls that make it longer. */
public final class LimitTest {
    private static final int LIMIT = 1400;
    private static final int OBJECTS = 10;

    public static void main(String[] args) {
        Checks.section("Terms");
        Checks.sentence("The STREAM has at most 1400 bytes", LimitTest::streamLimit);
        Checks.sentence("waiting DATA counted:", LimitTest::waitingCounted);
        Checks.sentence("a call that would make it longer answers FULL and changes nothing. [data]", LimitTest::fullData);
        Checks.sentence("a call that would make it longer answers FULL and changes nothing. [write]", LimitTest::fullWrite);
        Checks.sentence("a call that would make it longer answers FULL and changes nothing. [reset]", LimitTest::fullReset);
        Checks.end();
    }

    private static void streamLimit() {
        GraphWriter x = new GraphWriter();
        Checks.fillTo(x, LIMIT - 1);
        Checks.due("the last byte by write", x.write(-1, false), LIMIT);
        Checks.due("one more", x.write(-1, false), -2);
        Checks.due("length", x.count(0), LIMIT);
        Checks.due("the last byte", x.byteAt(LIMIT - 1), 0x70);
        Checks.due("none behind it", x.byteAt(LIMIT), -1);
        Checks.due("calls that make nothing longer", x.text(0x41), 0);
        GraphWriter y = new GraphWriter();
        Checks.fillTo(y, LIMIT - 1);
        Checks.due("the last byte by reset", y.reset(), LIMIT);
        Checks.due("one more", y.reset(), -2);
        GraphWriter z = new GraphWriter();
        Checks.fillTo(z, LIMIT - 257);
        letWait(z, 254);
        Checks.due("the last byte by data", z.data(1, 1), 0);
        Checks.due("length", z.count(0), LIMIT);
        Checks.due("one more", z.data(1, 1), -2);
    }

    private static void waitingCounted() {
        GraphWriter x = new GraphWriter();
        Checks.fillTo(x, LIMIT - 9);
        Checks.due("eight", x.data(0x0102030405060708L, 8), 8);
        Checks.due("two more", x.data(1, 2), -2);
        Checks.due("one more", x.data(9, 1), 9);
        Checks.due("none more", x.data(9, 1), -2);
        Checks.due("waiting", x.count(1), 9);
        Checks.due("length", x.count(0), LIMIT - 9);
        for (int waiting = 1; waiting <= 8; waiting++) {
            GraphWriter y = filled(LIMIT - 3 - waiting, waiting);
            Checks.due("they and NULL to the limit", y.write(-1, false), LIMIT);
            GraphWriter z = filled(LIMIT - 3 - waiting, waiting);
            Checks.due("they and a reset to the limit", z.reset(), LIMIT);
        }
    }

    /** A stream of that length with so much data waiting. */
    private static GraphWriter filled(int length, int waiting) {
        GraphWriter x = graph();
        Checks.fillTo(x, length);
        letWait(x, waiting);
        return x;
    }

    private static void letWait(GraphWriter x, int count) {
        for (int left = count; left > 0; left -= 8) {
            x.data(0x2122232425262728L, Math.min(left, 8));
        }
        Checks.due("waiting", x.count(1), count);
    }

    private static void fullData() {
        for (int count = 1; count <= 8; count++) {
            int some = count;
            for (int left = 0; left < count; left++) {
                int room = left;
                Checks.dueUnchanged(count + " bytes with room for " + left, () -> filled(LIMIT - room, 0),
                    x -> x.data(-1, some), -2);
                Checks.dueUnchanged(count + " bytes with room for " + left + " behind three", () -> filled(LIMIT - 3 - room, 3),
                    x -> x.data(-1, some), -2);
            }
            GraphWriter x = filled(LIMIT - count, 0);
            Checks.due(count + " bytes with room for them", x.data(-1, count), count);
        }
        fullDataByBlock();
    }

    /** The two bytes before a block that is flushed at once are too many, though the data are not. */
    private static void fullDataByBlock() {
        for (int waiting = 247; waiting <= 254; waiting++) {
            for (int count = 255 - waiting; count <= 8; count++) {
                int some = count;
                int wait = waiting;
                GraphWriter x = filled(LIMIT - 2 - waiting - count, waiting);
                Checks.due("a block and what is over to the limit", x.data(-1, count), waiting + count - 255);
                Checks.due("length", x.count(0), LIMIT - (waiting + count - 255));
                for (int over = 1; over <= 2; over++) {
                    int length = LIMIT - 2 - waiting - count + over;
                    Checks.dueUnchanged(count + " bytes behind " + waiting + ", over the limit by " + over,
                        () -> filled(length, wait), y -> y.data(-1, some), -2);
                }
            }
        }
    }

    /**
     * Objects of all sorts: a graph, its parts, a plain instance, one with the plain one inside, a replaced one,
     * and two that are small, so that they may still find room and show which classes have handles.
     */
    private static GraphWriter graph() {
        GraphWriter x = new GraphWriter();
        x.define(0, 0, -1, 0);
        x.define(1, 1, 0, 11);
        x.field(1, 3, 7, false);
        x.define(2, 2, 1, 12);
        x.field(2, 0, 6, false);
        x.field(2, 1, 3, false);
        x.define(3, 3, -1, 0);
        x.instance(2);
        x.array(true, 4);
        x.text(0x4142);
        x.constant(3, 7);
        x.array(false, 2);
        x.instance(0);
        x.array(true, 2);
        x.instance(2);
        x.instance(1);
        x.instance(2);
        x.set(0, 0, 1);
        x.set(0, 1, 4);
        x.set(1, 0, 2);
        x.set(1, 1, 3);
        x.set(1, 2, 0);
        x.set(6, 0, 4);
        x.set(6, 1, 5);
        x.replace(7, 6);
        return x;
    }

    /** Each object's bytes are cut by the limit at every place, with data waiting and without. */
    private static void fullWrite() {
        for (int object = 0; object < OBJECTS; object++) {
            GraphWriter alone = graph();
            int answer = alone.write(object, true);
            int size = alone.count(0) - 4;
            for (int waiting = 0; waiting <= 3; waiting += 3) {
                int all = size + (waiting == 0 ? 0 : 2 + waiting);
                GraphWriter x = filled(LIMIT - all, waiting);
                Checks.due("object " + object + " to the limit", x.write(object, true), answer < 0 ? answer : LIMIT);
                Checks.due("length", x.count(0), LIMIT);
                for (int over = 1; over <= all - waiting; over++) {
                    dueFullWrite(object, LIMIT - all + over, waiting);
                }
            }
        }
        fullReference();
    }

    private static void dueFullWrite(int object, int length, int waiting) {
        Supplier<GraphWriter> make = () -> filled(length, waiting);
        Checks.dueUnchanged("object " + object + " behind " + length + " bytes", make, x -> x.write(object, false), -2);
    }

    /** Handles that were there before stay, and are those that they were. */
    private static void fullReference() {
        for (int left = 0; left < 5; left++) {
            int room = left;
            Supplier<GraphWriter> make = () -> {
                GraphWriter x = filled(LIMIT - 12 - room, 0);
                x.write(2, false);
                x.write(2, true);
                x.write(-1, false);
                x.write(-1, false);
                return x;
            };
            Checks.due("room", make.get().count(0), LIMIT - room);
            Checks.due("the last handle", make.get().handle(2), 1);
            Checks.dueUnchanged("a reference with room for " + left, make, x -> x.write(2, false), -2);
            Checks.dueUnchanged("unshared with room for " + left, make, x -> x.write(2, true), -2);
            Checks.dueUnchanged("others with room for " + left, make, x -> x.write(0, false), -2);
        }
    }

    private static void fullReset() {
        for (int waiting = 0; waiting <= 9; waiting++) {
            int wait = waiting;
            int all = waiting == 0 ? 1 : 3 + waiting;
            for (int over = 1; over <= all - waiting; over++) {
                int length = LIMIT - all + over;
                Checks.dueUnchanged("reset over the limit by " + over + " with " + waiting + " waiting",
                    () -> filled(length, wait), GraphWriter::reset, -2);
            }
        }
        Supplier<GraphWriter> withHandles = () -> {
            GraphWriter x = filled(LIMIT - 5, 0);
            x.write(2, false);
            return x;
        };
        Checks.due("a handle", withHandles.get().handle(2), 0);
        Checks.dueUnchanged("reset with a handle", withHandles, GraphWriter::reset, -2);
    }
}
