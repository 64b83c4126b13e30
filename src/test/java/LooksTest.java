/** The sentences of promises 14 to 17: byteAt, handle, count, object. */
public final class LooksTest {
    private static final int LOWEST = Integer.MIN_VALUE;
    private static final int HIGHEST = Integer.MAX_VALUE;

    public static void main(String[] args) {
        Checks.section("Promise 14: byteAt");
        Checks.sentence("Byte of the STREAM at a place from 0; REFUSED if there is none.", LooksTest::places);
        Checks.sentence("Waiting DATA are no part of it.", LooksTest::waitingPlaces);
        Checks.section("Promise 15: handle");
        Checks.sentence("The last handle given to an object,", LooksTest::lastHandle);
        Checks.sentence("REFUSED if it has none now.", LooksTest::noHandle);
        Checks.section("Promise 16: count");
        Checks.sentence("What: 0 the STREAM's length;", LooksTest::countLength);
        Checks.sentence("1 DATA that wait;", LooksTest::countWaiting);
        Checks.sentence("2 how many HANDLES;", LooksTest::countHandles);
        Checks.sentence("3 how many objects;", LooksTest::countObjects);
        Checks.sentence("4 the sum of 1, 2, 4 .. 32 for the defined classes.", LooksTest::countClasses);
        Checks.sentence("Another what: REFUSED. [count]", LooksTest::countOther);
        Checks.section("Promise 17: object");
        Checks.sentence("What of an object: 0 its sort: 0 INSTANCE, 1 TEXT, 2 INTS, 3 REFS, 4 CONSTANT;", LooksTest::sorts);
        Checks.sentence("1 the class of an INSTANCE or CONSTANT, else REFUSED;", LooksTest::owners);
        Checks.sentence("2 how many slots, places or signs it has (0 for a CONSTANT).", LooksTest::sizes);
        Checks.sentence("Another what: REFUSED. [object]", LooksTest::objectOther);
        Checks.end();
    }

    private static void places() {
        GraphWriter x = new GraphWriter();
        Checks.due("byteAt(0)", x.byteAt(0), 0xAC);
        Checks.due("byteAt(3)", x.byteAt(3), 5);
        for (int place : new int[] {LOWEST, -1, 4, 5, 1399, 1400, HIGHEST}) {
            Checks.due("byteAt(" + place + ")", x.byteAt(place), -1);
        }
        x.data(0x00FF7F80, 4);
        x.reset();
        int[] due = {0x77, 4, 0, 0xFF, 0x7F, 0x80, 0x79, -1};
        for (int i = 0; i < due.length; i++) {
            Checks.due("byteAt(" + (4 + i) + ")", x.byteAt(4 + i), due[i]);
        }
        Checks.fillTo(x, 1400);
        Checks.due("byteAt(1399)", x.byteAt(1399) < 0 ? -1 : 0, 0);
        Checks.due("byteAt(1400)", x.byteAt(1400), -1);
        Checks.due("byteAt(0) of a full stream", x.byteAt(0), 0xAC);
    }

    private static void waitingPlaces() {
        GraphWriter x = new GraphWriter();
        x.data(0x0102030405060708L, 8);
        for (int place = 4; place < 14; place++) {
            Checks.due("byteAt(" + place + ")", x.byteAt(place), -1);
        }
        x.write(-1, false);
        Checks.due("flushed", x.byteAt(6), 1);
        Checks.due("the last of them", x.byteAt(13), 8);
        Checks.due("NULL", x.byteAt(14), 0x70);
        x.data(9, 1);
        Checks.due("behind NULL", x.byteAt(15), -1);
    }

    private static void lastHandle() {
        GraphWriter x = new GraphWriter();
        x.define(0, 1, -1, 0);
        x.text(0x41);
        x.text(0x42);
        x.instance(0);
        x.write(0, false);
        Checks.due("the first of all", x.handle(0), 0);
        x.write(1, false);
        Checks.due("the second", x.handle(1), 1);
        x.write(0, false);
        Checks.due("a reference gives none", x.handle(0), 0);
        x.write(0, true);
        Checks.due("unshared", x.handle(0), 2);
        x.write(0, true);
        Checks.due("unshared again", x.handle(0), 3);
        Checks.due("the other's stays", x.handle(1), 1);
        x.write(2, false);
        Checks.due("behind its class's", x.handle(2), 5);
        x.replace(2, 1);
        x.write(2, true);
        Checks.due("its replacement's", x.handle(1), 6);
        Checks.due("its own stays", x.handle(2), 5);
    }

    private static void noHandle() {
        GraphWriter x = new GraphWriter();
        for (int object : new int[] {LOWEST, -1, 0, 11, 12, HIGHEST}) {
            Checks.due("handle(" + object + ") of none", x.handle(object), -1);
        }
        x.define(0, 0, -1, 0);
        x.text(0x41);
        x.instance(0);
        Checks.due("not written", x.handle(0), -1);
        x.write(0, false);
        Checks.due("written", x.handle(0), 0);
        Checks.due("object 2", x.handle(2), -1);
        x.reset();
        Checks.due("after a reset", x.handle(0), -1);
        x.write(0, true);
        Checks.due("written again", x.handle(0), 0);
        x.write(1, false);
        Checks.due("after an abort", x.handle(0), -1);
        Checks.due("the plain one", x.handle(1), -1);
        x.replace(1, 0);
        x.write(1, false);
        Checks.due("what was replaced", x.handle(1), -1);
        Checks.due("what it was replaced by", x.handle(0), 0);
    }

    private static void countLength() {
        GraphWriter x = new GraphWriter();
        Checks.due("at first", x.count(0), 4);
        x.data(0, 8);
        Checks.due("without what waits", x.count(0), 4);
        x.reset();
        Checks.due("with a block", x.count(0), 15);
        x.define(0, 0, -1, 0);
        x.instance(0);
        x.write(0, false);
        Checks.due("with an abort", x.count(0), 22);
        Checks.fillTo(x, 1400);
        Checks.due("the most", x.count(0), 1400);
    }

    private static void countWaiting() {
        GraphWriter x = new GraphWriter();
        Checks.due("at first", x.count(1), 0);
        for (int i = 1; i <= 254; i++) {
            x.data(i, 1);
        }
        Checks.due("the most", x.count(1), 254);
        x.data(0, 1);
        Checks.due("after a block", x.count(1), 0);
        x.data(0, 5);
        Checks.due("again", x.count(1), 5);
        x.reset();
        Checks.due("after a reset", x.count(1), 0);
    }

    private static void countHandles() {
        GraphWriter x = new GraphWriter();
        x.define(0, 1, -1, 0);
        x.field(0, 0, 6, false);
        x.field(0, 1, 7, false);
        x.instance(0);
        x.text(0);
        Checks.due("at first", x.count(2), 0);
        x.write(0, false);
        Checks.due("class, two type texts, instance", x.count(2), 4);
        x.write(0, false);
        Checks.due("a reference", x.count(2), 4);
        x.write(0, true);
        Checks.due("unshared", x.count(2), 5);
        x.write(-1, false);
        Checks.due("NULL", x.count(2), 5);
        x.reset();
        Checks.due("after a reset", x.count(2), 0);
        for (int i = 1; i <= 300; i++) {
            x.write(1, true);
        }
        Checks.due("many", x.count(2), 300);
    }

    private static void countObjects() {
        GraphWriter x = new GraphWriter();
        for (int object = 0; object < 12; object++) {
            Checks.due("count(3)", x.count(3), object);
            x.text(object);
            x.text(0x80);
        }
        Checks.due("the most", x.count(3), 12);
        x.text(0);
        Checks.due("no more", x.count(3), 12);
        x.reset();
        Checks.due("after a reset", x.count(3), 12);
    }

    private static void countClasses() {
        for (int classes = 0; classes < 64; classes++) {
            GraphWriter x = new GraphWriter();
            for (int number = 0; number < 6; number++) {
                if ((classes >> number & 1) != 0) {
                    x.define(number, number % 5, -1, 0);
                }
            }
            Checks.due("count(4)", x.count(4), classes);
        }
    }

    private static void countOther() {
        GraphWriter x = new GraphWriter();
        for (int what : new int[] {LOWEST, -1, 5, 6, HIGHEST}) {
            Checks.due("count(" + what + ")", x.count(what), -1);
        }
        Checks.due("count(4)", x.count(4), 0);
    }

    /** Object 0 is an instance with three slots, 1 a text, 2 ints, 3 refs, 4 a constant. */
    private static GraphWriter withObjects() {
        GraphWriter x = new GraphWriter();
        x.define(0, 0, -1, 0);
        x.field(0, 0, 0, true);
        x.define(2, 1, 0, 0);
        x.field(2, 0, 7, false);
        x.field(2, 1, 6, true);
        x.define(4, 3, -1, 0);
        x.instance(2);
        x.text(0x4100420043000044L);
        x.array(false, 6);
        x.array(true, 2);
        x.constant(4, 9);
        return x;
    }

    private static void sorts() {
        GraphWriter x = withObjects();
        for (int object = 0; object < 5; object++) {
            Checks.due("sort of " + object, x.object(object, 0), object);
        }
        for (int object : new int[] {LOWEST, -1, 5, 11, 12, HIGHEST}) {
            Checks.due("sort of " + object, x.object(object, 0), -1);
        }
    }

    private static void owners() {
        GraphWriter x = withObjects();
        int[] due = {2, -1, -1, -1, 4};
        for (int object = 0; object < 5; object++) {
            Checks.due("class of " + object, x.object(object, 1), due[object]);
        }
        for (int object : new int[] {LOWEST, -1, 5, 11, 12, HIGHEST}) {
            Checks.due("class of " + object, x.object(object, 1), -1);
        }
        x.instance(0);
        Checks.due("class of a plain instance", x.object(5, 1), 0);
    }

    private static void sizes() {
        GraphWriter x = withObjects();
        int[] due = {3, 4, 6, 2, 0};
        for (int object = 0; object < 5; object++) {
            Checks.due("size of " + object, x.object(object, 2), due[object]);
        }
        for (int object : new int[] {LOWEST, -1, 5, 11, 12, HIGHEST}) {
            Checks.due("size of " + object, x.object(object, 2), -1);
        }
        x.text(0);
        x.array(false, 0);
        x.array(true, 0);
        x.define(1, 1, -1, 0);
        x.instance(1);
        for (int object = 5; object < 9; object++) {
            Checks.due("size of the empty " + object, x.object(object, 2), 0);
        }
    }

    private static void objectOther() {
        GraphWriter x = withObjects();
        for (int object = -1; object < 6; object++) {
            for (int what : new int[] {LOWEST, -1, 3, 4, HIGHEST}) {
                Checks.due("object(" + object + ", " + what + ")", x.object(object, what), -1);
            }
        }
    }
}
