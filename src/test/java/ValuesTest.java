/** The sentences of promises 8, 9 and 10: set, replace, extra. */
public final class ValuesTest {
    private static final int LOWEST = Integer.MIN_VALUE;
    private static final int HIGHEST = Integer.MAX_VALUE;

    public static void main(String[] args) {
        Checks.section("Promise 8: set");
        Checks.sentence("Sets slot 0 .. of an INSTANCE,", ValuesTest::slots);
        Checks.sentence("or place 0 .. of INTS or REFS, to a value;", ValuesTest::places);
        Checks.sentence("where an object stands, -1 for NULL or an object's number", ValuesTest::objectsHeld);
        Checks.sentence("(for a slot of type 6 only one of INTS), else REFUSED;", ValuesTest::intsHeld);
        Checks.sentence("where an int or PRIMITIVE value stands, its lowest bytes. DONE.", ValuesTest::lowestBytes);
        Checks.section("Promise 9: replace");
        Checks.sentence("The INSTANCE has the REPLACEMENT,", ValuesTest::replaceInstances);
        Checks.sentence("an object other than itself,", ValuesTest::replaceByOthers);
        Checks.sentence("or none for -1. DONE.", ValuesTest::replaceByNone);
        Checks.section("Promise 10: extra");
        Checks.sentence("The INSTANCE has the EXTRA. DONE.", ValuesTest::extras);
        Checks.end();
    }

    /** Object 0 is an instance with slots I, L and [I, 1 a text, 2 ints, 3 refs, 4 a constant. */
    private static GraphWriter withObjects() {
        GraphWriter x = new GraphWriter();
        x.define(0, 1, -1, 0);
        x.field(0, 0, 2, false);
        x.field(0, 1, 7, false);
        x.field(0, 2, 6, false);
        x.define(1, 3, -1, 0);
        x.instance(0);
        x.text(0x41);
        x.array(false, 2);
        x.array(true, 2);
        x.constant(1, 0);
        return x;
    }

    private static void slots() {
        GraphWriter x = withObjects();
        for (int slot = 0; slot < 3; slot++) {
            Checks.due("slot " + slot, x.set(0, slot, -1), 0);
        }
        for (int slot : new int[] {LOWEST, -1, 3, 4, HIGHEST}) {
            Checks.due("slot " + slot, x.set(0, slot, -1), -1);
        }
        for (int object : new int[] {LOWEST, -1, 5, 12, HIGHEST}) {
            Checks.due("slot of object " + object, x.set(object, 0, -1), -1);
        }
        for (int slot = -1; slot <= 1; slot++) {
            Checks.due("slot " + slot + " of a text", x.set(1, slot, -1), -1);
            Checks.due("slot " + slot + " of a constant", x.set(4, slot, -1), -1);
        }
        x.define(2, 0, -1, 0);
        x.instance(2);
        Checks.due("slot 0 of none", x.set(5, 0, -1), -1);
        x.define(3, 0, 2, 0);
        x.field(3, 0, 0, true);
        x.instance(3);
        Checks.due("a transient slot of a plain instance", x.set(6, 0, 1), 0);
        Checks.due("one more", x.set(6, 1, 1), -1);
    }

    private static void places() {
        GraphWriter x = withObjects();
        for (int object = 2; object <= 3; object++) {
            for (int place : new int[] {LOWEST, -1, 2, 3, HIGHEST}) {
                Checks.due("place " + place + " of " + object, x.set(object, place, 1), -1);
            }
            for (int place = 0; place < 2; place++) {
                Checks.due("place " + place + " of " + object, x.set(object, place, 1), 0);
            }
        }
        Checks.dueWritten("ints", x, 2, false, "75" + Bytes.INTS + "00000002 00000001 00000001");
        Checks.dueWritten("refs", x, 3, false, "75" + Bytes.REFS + "00000002 74 0001 41" + Bytes.back(4));
        for (int length = 0; length <= 4; length++) {
            int ints = x.array(false, length);
            Checks.due("first place of ints of " + length, x.set(ints, 0, 1), length == 0 ? -1 : 0);
            Checks.due("last place of ints of " + length, x.set(ints, length - 1, 1), length == 0 ? -1 : 0);
            Checks.due("place behind ints of " + length, x.set(ints, length, 1), -1);
        }
        x = new GraphWriter();
        x.array(true, 0);
        Checks.due("first place of no refs", x.set(0, 0, -1), -1);
    }

    private static void objectsHeld() {
        GraphWriter x = withObjects();
        for (int value = -1; value < 5; value++) {
            Checks.due("slot to " + value, x.set(0, 1, value), 0);
            Checks.due("place to " + value, x.set(3, 0, value), 0);
        }
        x.set(0, 1, 1);
        x.set(3, 0, 1);
        long[] refused = {-2, 5, 11, 12, 1L << 32, (1L << 32) + 1, 0xFFFFFFFFL, 0xFFFFFFFF00000001L, Long.MIN_VALUE, Long.MAX_VALUE};
        for (long value : refused) {
            Checks.due("slot to " + value, x.set(0, 1, value), -1);
            Checks.due("place to " + value, x.set(3, 0, value), -1);
        }
        x.write(0, false);
        Checks.dueEnd("the slot stays", x, "74 0001 41 70");
        Checks.dueWritten("the place stays", x, 3, false, "75" + Bytes.REFS + "00000002" + Bytes.back(4) + "70");
        Checks.due("slot to NULL", x.set(0, 1, -1), 0);
        Checks.due("place to NULL", x.set(3, 0, -1), 0);
        Checks.dueWritten("NULL in the slot", x, 0, true, "73" + Bytes.back(0) + "00000000 70 70");
        Checks.dueWritten("NULL in the place", x, 3, true, "75" + Bytes.back(5) + "00000002 70 70");
        Checks.due("an object that was not there", x.text(0x42), 5);
        Checks.due("slot to it", x.set(0, 1, 5), 0);
        Checks.due("slot to itself", x.set(0, 1, 0), 0);
        Checks.due("place to itself", x.set(3, 1, 3), 0);
    }

    private static void intsHeld() {
        GraphWriter x = withObjects();
        int[] due = {-1, -1, 0, -1, -1};
        for (int value = 0; value < 5; value++) {
            Checks.due("slot to " + value, x.set(0, 2, value), due[value]);
        }
        long[] refused = {-2, 5, 12, (1L << 32) + 2, 0xFFFFFFFFL, Long.MIN_VALUE, Long.MAX_VALUE};
        for (long value : refused) {
            Checks.due("slot to " + value, x.set(0, 2, value), -1);
        }
        x.write(0, false);
        Checks.dueEnd("ints stay", x, "70 75" + Bytes.INTS + "00000002 00000000 00000000");
        Checks.due("slot to NULL", x.set(0, 2, -1), 0);
        Checks.dueWritten("NULL", x, 0, true, "73" + Bytes.back(0) + "00000000 70 70");
        Checks.due("empty ints", x.array(false, 0), 5);
        Checks.due("slot to them", x.set(0, 2, 5), 0);
    }

    /** Each of the six types in a class of its own, and ints, for numbers with more bytes than they take. */
    private static void lowestBytes() {
        long[] numbers = {0, 1, -1, 0x80, 0x8000, 0x80000000L, Long.MIN_VALUE, Long.MAX_VALUE, 0x0123456789ABCDEFL};
        int[] digits = {2, 4, 8, 16, 4};
        for (int type = 0; type < 6; type++) {
            GraphWriter x = new GraphWriter();
            x.define(0, 1, -1, 0);
            x.field(0, 0, type, false);
            x.instance(0);
            x.write(0, false);
            for (long number : numbers) {
                Checks.due("set", x.set(0, 0, number), 0);
                String all = String.format("%016X", number);
                String due = type == 5 ? "0" + (number & 1) : all.substring(16 - digits[type]);
                Checks.dueWritten("type " + type + " of " + all, x, 0, true, "73" + Bytes.back(0) + due);
            }
        }
        GraphWriter y = new GraphWriter();
        y.array(false, 1);
        y.write(0, false);
        for (long number : numbers) {
            Checks.due("set", y.set(0, 0, number), 0);
            String all = String.format("%016X", number);
            Checks.dueWritten("int of " + all, y, 0, true, "75" + Bytes.back(0) + "00000001" + all.substring(8));
        }
    }

    private static void replaceInstances() {
        GraphWriter x = withObjects();
        for (int object : new int[] {LOWEST, -1, 5, 12, HIGHEST}) {
            Checks.due("replace of object " + object, x.replace(object, 0), -1);
        }
        for (int object = 1; object < 5; object++) {
            Checks.due("replace of object " + object, x.replace(object, 0), -1);
            Checks.due("replace of object " + object + " by none", x.replace(object, -1), -1);
        }
        Checks.due("replace of an instance", x.replace(0, 1), 0);
        Checks.dueWritten("it has it", x, 0, false, "74 0001 41");
        Checks.dueWritten("no other has one", x, 1, false, Bytes.back(0));
        x.reset();
        Checks.dueWritten("after a reset too", x, 0, false, "74 0001 41");
        for (int kind : new int[] {0, 2, 4}) {
            GraphWriter y = new GraphWriter();
            y.define(0, kind, -1, 0);
            y.instance(0);
            y.text(0x41);
            Checks.due("an instance of kind " + kind, y.replace(0, 1), 0);
            Checks.dueWritten("its replacement", y, 0, true, "74 0001 41");
        }
    }

    private static void replaceByOthers() {
        GraphWriter x = withObjects();
        Checks.due("by a text", x.replace(0, 1), 0);
        Checks.due("by itself", x.replace(0, 0), -1);
        for (int other : new int[] {LOWEST, -2, 5, 12, HIGHEST}) {
            Checks.due("by object " + other, x.replace(0, other), -1);
        }
        Checks.dueWritten("the text stays", x, 0, false, "74 0001 41");
        for (int other = 2; other < 5; other++) {
            Checks.due("by object " + other, x.replace(0, other), 0);
            x.write(0, false);
            Checks.due("the last one given", x.handle(other) < 0 ? 0 : 1, 1);
        }
        Checks.due("an instance", x.instance(0), 5);
        Checks.due("by another instance", x.replace(0, 5), 0);
        Checks.due("which is replaced by it", x.replace(5, 0), 0);
        x.write(0, false);
        Checks.due("handle of the first", x.handle(0), -1);
        Checks.due("handle of the other", x.handle(5) < 0 ? 0 : 1, 1);
    }

    private static void replaceByNone() {
        GraphWriter x = withObjects();
        Checks.due("none when there is none", x.replace(0, -1), 0);
        Checks.due("a text", x.replace(0, 1), 0);
        Checks.due("none", x.replace(0, -1), 0);
        x.write(0, false);
        Checks.dueEnd("itself", x, "78 70 00000000 70 70");
        Checks.due("not the text", x.handle(1), -1);
    }

    private static void extras() {
        GraphWriter x = withObjects();
        for (int object : new int[] {LOWEST, -1, 5, 12, HIGHEST}) {
            Checks.due("extra of object " + object, x.extra(object, 1), -1);
        }
        for (int object = 1; object < 5; object++) {
            Checks.due("extra of object " + object, x.extra(object, 1), -1);
        }
        x.define(2, 2, -1, 0);
        x.instance(2);
        x.instance(2);
        x.write(5, false);
        Checks.dueEnd("no extra", x, "77 04 00000002 78");
        int[] values = {LOWEST, -3, -2, -1, 0, 1, HIGHEST - 2, HIGHEST - 1, HIGHEST};
        String[] due = {"80000002", "FFFFFFFF", "00000000", "00000001", "00000002", "00000003", "7FFFFFFF", "80000000",
            "80000001"};
        for (int i = 0; i < values.length; i++) {
            Checks.due("extra " + values[i], x.extra(5, values[i]), 0);
            Checks.dueWritten("extra " + values[i], x, 5, true, "73" + Bytes.back(0) + "77 04" + due[i] + "78");
        }
        x.write(6, false);
        Checks.dueEnd("the other has none", x, "77 04 00000002 78");
        Checks.due("extra of a serial instance", x.extra(0, 1), 0);
        x.define(3, 0, -1, 0);
        Checks.due("a plain instance", x.instance(3), 7);
        Checks.due("its extra", x.extra(7, 1), 0);
    }
}
