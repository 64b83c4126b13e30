/** Promises 8, 9 and 10: set, replace, extra. */
public final class ValuesTest {
    public static void main(String[] args) {
        setNumbers();
        setPrimitives();
        setObjects();
        setInts();
        replaceNumbers();
        replaceWays();
        replaceUnshared();
        extras();
        Checks.end();
    }

    private static void setNumbers() {
        GraphWriter x = new GraphWriter();
        x.define(0, 1, -1, 0);
        x.field(0, 0, 0, false);
        x.define(1, 3, -1, 0);
        x.instance(0);
        x.text(65);
        x.constant(1, 0);
        x.array(false, 2);
        x.array(true, 2);
        Checks.due("set of -1", x.set(-1, 0, 0), -1);
        Checks.due("set of 5", x.set(5, 0, 0), -1);
        Checks.due("set of 12", x.set(12, 0, 0), -1);
        Checks.due("slot -1", x.set(0, -1, 0), -1);
        Checks.due("slot 1 of 1", x.set(0, 1, 0), -1);
        Checks.due("slot 0 of 1", x.set(0, 0, 0), 0);
        Checks.due("a text", x.set(1, 0, 0), -1);
        Checks.due("a constant", x.set(2, 0, 0), -1);
        Checks.due("ints place 1", x.set(3, 1, 0), 0);
        Checks.due("ints place 2", x.set(3, 2, 0), -1);
        Checks.due("refs place 1", x.set(4, 1, 0), 0);
        Checks.due("refs place 2", x.set(4, 2, 0), -1);
        Checks.due("refs place -1", x.set(4, -1, 0), -1);
    }

    /** The slots are those of two classes with all six types; each has more bytes than its type takes. */
    private static void setPrimitives() {
        GraphWriter x = new GraphWriter();
        x.define(1, 1, -1, 0);
        x.field(1, 3, 0, false);
        x.field(1, 2, 1, false);
        x.field(1, 1, 2, false);
        x.field(1, 0, 3, false);
        x.define(0, 1, 1, 0);
        x.field(0, 1, 4, false);
        x.field(0, 0, 5, false);
        x.instance(0);
        int descriptors = 2 * (4 + 8 + 1 + 2 + 1) + 6 * 4 + 1;
        Checks.due("a byte for each that is due", x.write(0, false), 4 + 1 + descriptors + 18);
        Checks.dueEnd("first values", x, "0000000000000000 00000000 0000 00 00 0000");
        for (int slot = 0; slot < 6; slot++) {
            Checks.due("set slot " + slot, x.set(0, slot, 0x0123456789ABCDEFL), 0);
        }
        x.write(0, true);
        Checks.dueEnd("lowest bytes", x, "0123456789ABCDEF 89ABCDEF CDEF EF 01 CDEF");
        Checks.due("set an even number", x.set(0, 5, 0xFFFFFFFEL), 0);
        x.write(0, true);
        Checks.dueEnd("lowest bit", x, "00 CDEF");
    }

    private static void setObjects() {
        GraphWriter x = new GraphWriter();
        x.define(0, 4, -1, 0);
        x.field(0, 0, 6, false);
        x.field(0, 1, 7, false);
        x.define(1, 3, -1, 0);
        x.instance(0);
        x.array(false, 0);
        x.array(true, 2);
        x.text(65);
        x.constant(1, 0);
        int[] dueOfInts = {-1, 0, -1, -1, -1};
        for (int value = 0; value < 5; value++) {
            Checks.due("[I slot holds " + value, x.set(0, 0, value), dueOfInts[value]);
            Checks.due("L slot holds " + value, x.set(0, 1, value), 0);
            Checks.due("refs hold " + value, x.set(2, 0, value), 0);
        }
        long[] refused = {-2, 5, 12, Long.MIN_VALUE, Long.MAX_VALUE, 1L << 32, (1L << 32) + 1, 0xFFFFFFFFL};
        for (long value : refused) {
            Checks.due("[I slot refuses " + value, x.set(0, 0, value), -1);
            Checks.due("L slot refuses " + value, x.set(0, 1, value), -1);
            Checks.due("refs refuse " + value, x.set(2, 0, value), -1);
        }
        x.set(0, 1, 3);
        x.write(0, false);
        Checks.dueEnd("values that stayed", x, "5B49 4DBA602676EAB2A5 02 0000 78 70 00000000 74 0001 41");
        Checks.due("[I slot to null", x.set(0, 0, -1), 0);
        Checks.due("L slot to null", x.set(0, 1, -1), 0);
        x.write(0, true);
        Checks.dueEnd("nulls again", x, "70 70");
    }

    private static void setInts() {
        GraphWriter x = new GraphWriter();
        x.array(false, 3);
        x.set(0, 0, -1);
        x.set(0, 1, 0x0123456789ABCDEFL);
        x.set(0, 2, 99);
        x.write(0, false);
        Checks.dueEnd("ints", x, "00000003 FFFFFFFF 89ABCDEF 00000063");
    }

    private static void replaceNumbers() {
        GraphWriter x = new GraphWriter();
        x.define(0, 0, -1, 0);
        x.define(1, 3, -1, 0);
        x.instance(0);
        x.text(65);
        x.array(false, 1);
        x.array(true, 1);
        x.constant(1, 1);
        Checks.due("replace of -1", x.replace(-1, 0), -1);
        Checks.due("replace of 5", x.replace(5, 0), -1);
        Checks.due("replace by -2", x.replace(0, -2), -1);
        Checks.due("replace by 5", x.replace(0, 5), -1);
        Checks.due("replace by itself", x.replace(0, 0), -1);
        for (int object = 1; object < 5; object++) {
            Checks.due("replace of sort " + object, x.replace(object, 0), -1);
            Checks.due("replace of sort " + object + " by none", x.replace(object, -1), -1);
            Checks.due("replace by sort " + object, x.replace(0, object), 0);
        }
        Checks.due("replace by none", x.replace(0, -1), 0);
        Checks.due("none is there", x.write(0, false), -3);
    }

    /** Three plain instances in a row or ring and a text behind them. */
    private static void replaceWays() {
        GraphWriter x = new GraphWriter();
        x.define(0, 0, -1, 0);
        x.define(1, 1, -1, 0);
        x.instance(0);
        x.instance(0);
        x.instance(1);
        x.text(0x41);
        x.replace(0, 1);
        x.replace(1, 2);
        x.replace(2, 3);
        x.write(0, false);
        Checks.dueStream("the last of the row", x, "74 0001 41");
        Checks.due("its handle", x.handle(3), 0);
        Checks.due("no handle for what was replaced", x.handle(0), -1);
        x.write(1, false);
        Checks.dueStreamFrom("a reference to it", x, 8, "71 007E0000");
        x.replace(2, 0);
        Checks.due("ring from 0 ends at 2", x.write(0, false), x.count(0));
        Checks.due("handle of 2", x.handle(2), 2);
        Checks.due("ring from 1 ends at 0", x.write(1, false), -3);
        Checks.due("ring from 2 ends at 1", x.write(2, false), -3);
        x.replace(2, 1);
        int before = x.count(0);
        x.write(0, false);
        Checks.dueStreamFrom("a ring that does not hold the first", x, before, "73 72 0001 42 0000000000000000 02 0000 78 70");
        x.replace(2, 3);
        before = x.count(0);
        x.write(2, false);
        Checks.dueStreamFrom("replaced in spite of its handle", x, before, "74 0001 41");
    }

    /** A value inside is replaced too, each on a way of its own. */
    private static void replaceUnshared() {
        GraphWriter x = new GraphWriter();
        x.define(0, 1, -1, 0);
        x.instance(0);
        x.text(0x42);
        x.array(true, 2);
        x.replace(0, 1);
        x.set(2, 0, 0);
        x.set(2, 1, 0);
        x.write(2, false);
        Checks.dueEnd("replaced inside", x, "00000002 74 0001 42 71 007E0002");
        x.write(0, true);
        Checks.dueEnd("its replacement unshared", x, "74 0001 42");
        Checks.due("its new handle", x.handle(1), 3);
    }

    private static void extras() {
        GraphWriter x = new GraphWriter();
        x.define(0, 2, -1, 0);
        x.define(5, 2, 0, 0);
        x.define(1, 3, -1, 0);
        x.instance(5);
        x.text(65);
        x.array(false, 1);
        x.array(true, 1);
        x.constant(1, 1);
        Checks.due("extra of -1", x.extra(-1, 0), -1);
        Checks.due("extra of 5", x.extra(5, 0), -1);
        for (int object = 1; object < 5; object++) {
            Checks.due("extra of sort " + object, x.extra(object, 1), -1);
        }
        x.write(0, false);
        Checks.dueEnd("no extra", x, "77 04 00000000 78 77 04 00000005 78");
        Checks.due("extra", x.extra(0, 0x7FFFFFFE), 0);
        x.write(0, true);
        Checks.dueEnd("extra wraps", x, "77 04 7FFFFFFE 78 77 04 80000003 78");
        Checks.due("extra below 0", x.extra(0, -3), 0);
        x.write(0, true);
        Checks.dueEnd("extra below 0", x, "77 04 FFFFFFFD 78 77 04 00000002 78");
    }
}
