/** The sentences of "Terms" on what is written for each sort of object, on UNSHARED, and on the ABORT. */
public final class WritingTest {
    public static void main(String[] args) {
        Checks.section("Terms");
        Checks.sentence("NULL: 70.", WritingTest::nulls);
        Checks.sentence("While X has a REPLACEMENT that was not X before on this way (X as it was given is the first), "
            + "that is X from now on.", WritingTest::replacements);
        Checks.sentence("X has a handle (the last one given to it counts), and it is not to be written UNSHARED: 71, "
            + "7E0000 plus the handle as 4 bytes.", WritingTest::references);
        Checks.sentence("TEXT: 74, a handle is given to it, UTF.", WritingTest::texts);
        Checks.sentence("INTS: 75, the DESCRIPTOR of INTS, a handle, its length as 4 bytes, each int as 4 bytes.",
            WritingTest::ints);
        Checks.sentence("REFS: 75, the DESCRIPTOR of REFS, a handle, its length as 4 bytes, and each value is WRITTEN.",
            WritingTest::refs);
        Checks.sentence("CONSTANT: 7E, the DESCRIPTOR of its class, a handle, then its name is WRITTEN as a TEXT of "
            + "its own that belongs to this object (it has a handle of its own then).", WritingTest::constants);
        Checks.sentence("INSTANCE: its class is PLAIN: the ABORT.", WritingTest::plain);
        Checks.sentence("Else 73, the DESCRIPTOR of its class, a handle, and then for each SERIALIZABLE class of its "
            + "chain, topmost first: the PARTS of the FIELDS that are not TRANSIENT in the DESCRIPTOR's order:",
            WritingTest::instances);
        Checks.sentence("a PRIMITIVE one its bytes (Z: 01 if the number's lowest bit is 1, else 00), another one is "
            + "WRITTEN;", WritingTest::parts);
        Checks.sentence("then, if the class is CUSTOM: 77 04, the EXTRA plus the class's number (wraps) as 4 bytes, 78.",
            WritingTest::custom);
        Checks.sentence("An object that is to be written UNSHARED gets its new handle like another;",
            WritingTest::unshared);
        Checks.sentence("what it refers to is shared as ever.", WritingTest::insideUnshared);
        Checks.sentence("ABORT: what was written stays; then 7B, 79, and 74 with the name of the PLAIN class in UTF, 79;",
            WritingTest::abortBytes);
        Checks.sentence("no handles are left, and the call is over.", WritingTest::afterAbort);
        Checks.end();
    }

    private static void nulls() {
        GraphWriter x = new GraphWriter();
        Checks.dueWritten("NULL", x, -1, false, "70");
        Checks.dueWritten("NULL unshared", x, -1, true, "70");
        Checks.due("handles", x.count(2), 0);
        x.array(true, 1);
        Checks.dueWritten("NULL inside", x, 0, false, "75" + Bytes.REFS + "00000001 70");
    }

    private static void replacements() {
        replacementRow();
        replacementRing(2);
        replacementRing(12);
        replacementRingBehind();
        replacementInside();
    }

    /** Eleven instances, each replaced by the next one, and a text behind them. */
    private static void replacementRow() {
        GraphWriter x = new GraphWriter();
        x.define(0, 0, -1, 0);
        for (int object = 0; object < 11; object++) {
            x.instance(0);
        }
        x.text(0x41);
        for (int object = 0; object < 11; object++) {
            x.replace(object, object + 1);
        }
        Checks.dueWritten("the last of the row", x, 0, false, "74 0001 41");
        Checks.due("its handle", x.handle(11), 0);
        Checks.due("no handle for the first", x.handle(0), -1);
        Checks.dueWritten("the same from its middle", x, 5, false, Bytes.back(0));
        Checks.dueWritten("the last of the row unshared", x, 10, true, "74 0001 41");
    }

    /** In a ring the one before the given one is the last that was not X before. */
    private static void replacementRing(int length) {
        GraphWriter x = new GraphWriter();
        x.define(0, 1, -1, 0);
        for (int object = 0; object < length; object++) {
            x.instance(0);
        }
        for (int object = 0; object < length; object++) {
            x.replace(object, (object + 1) % length);
        }
        for (int object = 0; object < length; object++) {
            int last = (object + length - 1) % length;
            x.write(object, false);
            Checks.due("ring of " + length + " from " + object, x.handle(last), object + 1);
            Checks.due("handles", x.count(2), object + 2);
        }
        Checks.dueWritten("by its handle", x, 0, false, Bytes.back(1));
    }

    /** 0 is replaced by 1, and 1 and 2 by one another. */
    private static void replacementRingBehind() {
        GraphWriter x = new GraphWriter();
        x.define(0, 1, -1, 0);
        x.instance(0);
        x.instance(0);
        x.instance(0);
        x.replace(0, 1);
        x.replace(1, 2);
        x.replace(2, 1);
        x.write(0, false);
        Checks.due("0 ends at 2", x.handle(2), 1);
        x.write(2, false);
        Checks.due("2 ends at 1", x.handle(1), 2);
        Checks.dueWritten("1 ends at 2", x, 1, false, Bytes.back(1));
        Checks.due("0 was never written", x.handle(0), -1);
        x.replace(0, -1);
        x.write(0, false);
        x.replace(0, 1);
        Checks.dueWritten("replaced in spite of its handle", x, 0, false, Bytes.back(1));
    }

    private static void replacementInside() {
        GraphWriter x = new GraphWriter();
        x.define(0, 1, -1, 0);
        x.instance(0);
        x.text(0x42);
        x.array(true, 2);
        x.replace(0, 1);
        x.set(2, 0, 0);
        x.set(2, 1, 0);
        Checks.dueWritten("inside", x, 2, false, "75" + Bytes.REFS + "00000002 74 0001 42" + Bytes.back(2));
    }

    private static void references() {
        GraphWriter x = new GraphWriter();
        x.text(0);
        x.write(0, false);
        Checks.dueWritten("handle 0", x, 0, false, "71 007E0000");
        x.write(0, true);
        x.write(0, true);
        Checks.dueWritten("the last one", x, 0, false, "71 007E0002");
        Checks.dueWritten("unshared in spite of its handle", x, 0, true, "74 0000");
        Checks.due("a reference gives no handle", x.count(2), 4);
        for (int i = 4; i < 256; i++) {
            x.write(0, true);
        }
        Checks.dueWritten("handle 255", x, 0, false, "71 007E00FF");
        x.write(0, true);
        Checks.dueWritten("handle 256", x, 0, false, "71 007E0100");
        x.reset();
        Checks.dueWritten("no handle now", x, 0, false, "74 0000");
    }

    private static void texts() {
        GraphWriter x = new GraphWriter();
        x.text(0);
        x.text(0x4200000000000043L);
        x.text(0);
        Checks.dueWritten("an empty text", x, 0, false, "74 0000");
        Checks.dueWritten("a text", x, 1, false, "74 0002 4243");
        Checks.dueWritten("another text of the same signs", x, 2, false, "74 0000");
        for (int object = 0; object < 3; object++) {
            Checks.due("handle of " + object, x.handle(object), object);
        }
    }

    private static void ints() {
        GraphWriter x = new GraphWriter();
        x.array(false, 0);
        x.array(false, 6);
        long[] values = {0, 1, -1, Integer.MAX_VALUE, Integer.MIN_VALUE, 0x0102030405060708L};
        for (int place = 0; place < 6; place++) {
            x.set(1, place, values[place]);
        }
        Checks.dueWritten("none", x, 0, false, "75" + Bytes.INTS + "00000000");
        Checks.due("handle behind the descriptor's", x.handle(0), 1);
        Checks.dueWritten("six", x, 1, false, "75" + Bytes.back(0)
            + "00000006 00000000 00000001 FFFFFFFF 7FFFFFFF 80000000 05060708");
        Checks.due("handle", x.handle(1), 2);
    }

    private static void refs() {
        GraphWriter x = new GraphWriter();
        x.array(true, 0);
        x.array(true, 4);
        x.text(0x41);
        x.set(1, 0, 1);
        x.set(1, 1, 0);
        x.set(1, 3, 2);
        Checks.dueWritten("four, the first itself", x, 1, false, "75" + Bytes.REFS + "00000004" + Bytes.back(1)
            + "75" + Bytes.back(0) + "00000000 70 74 0001 41");
        Checks.due("handle behind the descriptor's", x.handle(1), 1);
        Checks.due("handle of the empty one", x.handle(0), 2);
        deepRefs();
    }

    /** Twelve in one another, the innermost with the outermost in it. */
    private static void deepRefs() {
        GraphWriter x = new GraphWriter();
        for (int object = 0; object < 12; object++) {
            x.array(true, 1);
            x.set(object, 0, object - 1);
        }
        x.set(0, 0, 11);
        Checks.due("refs in one another", x.write(11, false), 4 + 1 + 35 + 4 + 11 * 10 + 5);
        Checks.due("handle of the innermost", x.handle(0), 12);
        Checks.dueEnd("the innermost", x, "75 71 007E0000 00000001 71 007E0001");
    }

    private static void constants() {
        GraphWriter x = new GraphWriter();
        x.define(5, 3, -1, 77);
        x.constant(5, 0);
        x.constant(5, 0);
        x.text(0x61);
        Checks.dueWritten("a constant", x, 0, false, "7E" + Bytes.bare(5, "12") + Bytes.ENUM + "74 0001 61");
        Checks.due("handle behind the two classes'", x.handle(0), 2);
        Checks.due("with its name's", x.count(2), 4);
        Checks.dueWritten("another one of that name", x, 1, false, "7E" + Bytes.back(0) + "74 0001 61");
        Checks.due("its handle", x.handle(1), 4);
        Checks.dueWritten("a text of those signs", x, 2, false, "74 0001 61");
        Checks.dueWritten("unshared, with its own name's handle", x, 0, true, "7E" + Bytes.back(0) + Bytes.back(3));
        Checks.due("its new handle", x.handle(0), 7);
        Checks.dueWritten("shared", x, 0, false, Bytes.back(7));
        Checks.dueWritten("the other one unshared", x, 1, true, "7E" + Bytes.back(0) + Bytes.back(5));
    }

    private static void plain() {
        GraphWriter x = new GraphWriter();
        x.define(0, 0, -1, 0);
        x.field(0, 0, 0, false);
        x.define(1, 1, 0, 0);
        x.instance(0);
        x.instance(1);
        Checks.due("an instance of a plain class", x.write(0, false), -3);
        Checks.due("unshared", x.write(0, true), -3);
        Checks.dueStream("only the aborts", x, "7B 79 74 0001 41 79 7B 79 74 0001 41 79");
        Checks.dueWritten("one with a plain class above", x, 1, false, "73" + Bytes.bare(1, "02") + "70");
    }

    private static void instances() {
        GraphWriter x = new GraphWriter();
        x.define(3, 0, -1, 0);
        x.field(3, 0, 0, false);
        x.define(4, 1, 3, 0);
        x.field(4, 25, 0, false);
        x.field(4, 0, 0, true);
        x.field(4, 1, 0, false);
        x.define(0, 4, -1, 0);
        x.define(1, 1, -1, 0);
        x.field(1, 0, 3, true);
        x.field(1, 1, 7, true);
        x.define(2, 1, 4, 0);
        x.field(2, 0, 0, false);
        x.instance(2);
        x.instance(0);
        x.instance(1);
        for (int slot = 0; slot < 5; slot++) {
            x.set(0, slot, 0x10 + slot);
        }
        x.set(2, 1, 0);
        Checks.dueWritten("three classes, the topmost plain", x, 0, false, "73 72 0001 43 0000000000000000 02 0001 "
            + "42 0001 61 78 72 0001 45 0000000000000000 02 0002 42 0001 62 42 0001 7A 78 70 13 11 14");
        Checks.due("handle behind the classes'", x.handle(0), 2);
        Checks.dueWritten("no fields", x, 1, false, "73" + Bytes.bare(0, "02") + "70");
        Checks.dueWritten("transient ones alone", x, 2, false, "73" + Bytes.bare(1, "02") + "70");
        deepInstances();
    }

    /** A ring of twelve instances, which closes by the first one's handle. */
    private static void deepInstances() {
        GraphWriter x = new GraphWriter();
        x.define(0, 1, -1, 0);
        x.field(0, 0, 7, false);
        for (int object = 0; object < 12; object++) {
            x.instance(0);
            x.set(object, 0, object - 1);
        }
        x.set(0, 0, 11);
        x.write(3, false);
        for (int object = 0; object < 12; object++) {
            Checks.due("ring handle of " + object, x.handle(object), 2 + (15 - object) % 12);
        }
        Checks.dueEnd("the ring closes", x, "73 71 007E0000 71 007E0002");
    }

    private static void parts() {
        GraphWriter x = new GraphWriter();
        x.define(0, 1, -1, 0);
        x.field(0, 0, 5, false);
        x.field(0, 1, 0, false);
        x.field(0, 2, 7, false);
        x.instance(0);
        long[] values = {0, 1, 2, 3, -1, -2, 0x100, 0x101, Long.MIN_VALUE, Long.MAX_VALUE};
        String[] due = {"00 00", "01 01", "00 02", "01 03", "01 FF", "00 FE", "00 00", "01 01", "00 00", "01 FF"};
        x.write(0, false);
        for (int i = 0; i < values.length; i++) {
            x.set(0, 0, values[i]);
            x.set(0, 1, values[i]);
            Checks.dueWritten("Z and B of " + values[i], x, 0, true, "73" + Bytes.back(0) + due[i] + "70");
        }
        x.text(0x41);
        x.set(0, 2, 1);
        Checks.dueWritten("a text first", x, 0, true, "73" + Bytes.back(0) + "01 FF 74 0001 41");
        Checks.dueWritten("then a reference", x, 0, true, "73" + Bytes.back(0) + "01 FF" + Bytes.back(x.handle(1)));
    }

    private static void custom() {
        GraphWriter x = new GraphWriter();
        x.define(0, 2, -1, 0);
        x.define(1, 1, 0, 0);
        x.define(5, 2, 1, 0);
        x.field(5, 0, 0, false);
        x.instance(5);
        x.set(0, 0, 0x33);
        x.write(0, false);
        Checks.dueEnd("no extra", x, "78 70 77 04 00000000 78 33 77 04 00000005 78");
        int[] extras = {0x7FFFFFFA, 0x7FFFFFFB, 0x7FFFFFFF, 0x80000000, -5, -1};
        String[] due = {"7FFFFFFF", "80000000", "80000004", "80000005", "00000000", "00000004"};
        for (int i = 0; i < extras.length; i++) {
            x.extra(0, extras[i]);
            Checks.dueWritten("extra " + extras[i], x, 0, true, String.format("73 71 007E0000 77 04 %08X 78 33 77 04 %s 78",
                extras[i], due[i]));
        }
        GraphWriter y = new GraphWriter();
        y.define(2, 1, -1, 0);
        y.define(3, 4, -1, 0);
        y.instance(2);
        y.instance(3);
        y.extra(0, 9);
        y.extra(1, 9);
        Checks.dueWritten("serial, with an extra", y, 0, false, "73" + Bytes.bare(2, "02") + "70");
        Checks.dueWritten("record, with an extra", y, 1, false, "73" + Bytes.bare(3, "02") + "70");
    }

    private static void unshared() {
        GraphWriter x = new GraphWriter();
        x.define(0, 1, -1, 0);
        x.define(1, 3, -1, 0);
        x.instance(0);
        x.text(0x41);
        x.array(false, 0);
        x.array(true, 0);
        x.constant(1, 0);
        int[] due = {1, 2, 4, 6, 9};
        for (int object = 0; object < 5; object++) {
            x.write(object, true);
            Checks.due("first handle of " + object, x.handle(object), due[object]);
        }
        Checks.due("handles", x.count(2), 11);
        for (int object = 0; object < 5; object++) {
            x.write(object, true);
            Checks.due("new handle of " + object, x.handle(object), 11 + object);
            Checks.dueWritten("it counts", x, object, false, Bytes.back(11 + object));
        }
        Checks.due("handles", x.count(2), 16);
    }

    private static void insideUnshared() {
        GraphWriter x = new GraphWriter();
        x.define(0, 1, -1, 0);
        x.field(0, 0, 7, false);
        x.field(0, 1, 7, false);
        x.instance(0);
        x.text(0x41);
        x.set(0, 0, 0);
        x.set(0, 1, 1);
        x.write(0, true);
        Checks.dueEnd("itself and a text", x, "78 70 71 007E0002 74 0001 41");
        Checks.dueWritten("itself by its new handle, the text by its own", x, 0, true,
            "73" + Bytes.back(0) + Bytes.back(4) + Bytes.back(3));
        x.array(true, 2);
        x.set(2, 0, 1);
        x.set(2, 1, 2);
        Checks.dueWritten("in refs", x, 2, true, "75" + Bytes.REFS + "00000002" + Bytes.back(3) + Bytes.back(6));
    }

    private static void abortBytes() {
        for (int number = 0; number < 6; number++) {
            GraphWriter x = new GraphWriter();
            x.define(number, 0, -1, 0);
            x.instance(number);
            x.write(0, false);
            Checks.dueStream("class " + number, x, String.format("7B 79 74 0001 %02X 79", 'A' + number));
        }
        GraphWriter x = new GraphWriter();
        x.define(5, 0, -1, 0);
        x.define(0, 0, 5, 0);
        x.define(1, 1, 0, 0);
        x.field(1, 0, 7, false);
        x.instance(0);
        x.instance(1);
        x.array(true, 4);
        x.set(1, 0, 0);
        x.set(2, 1, 1);
        x.set(2, 2, 1);
        x.write(2, false);
        Checks.dueStream("what was written stays", x, "75" + Bytes.REFS + "00000004 70 73 72 0001 42 0000000000000000 "
            + "02 0001 4C 0001 61" + Bytes.OBJECT_TEXT + "78 70 7B 79 74 0001 41 79");
    }

    private static void afterAbort() {
        GraphWriter x = new GraphWriter();
        x.define(0, 0, -1, 0);
        x.define(1, 2, -1, 0);
        x.field(1, 0, 7, false);
        x.instance(0);
        x.instance(1);
        x.array(true, 4);
        x.text(0x41);
        x.set(1, 0, 0);
        x.set(2, 0, 3);
        x.set(2, 1, 1);
        x.set(2, 2, 3);
        x.write(3, false);
        x.write(2, false);
        Checks.dueEnd("nothing behind the abort", x, "78 70 7B 79 74 0001 41 79");
        Checks.due("no handles", x.count(2), 0);
        for (int object = 0; object < 4; object++) {
            Checks.due("no handle of " + object, x.handle(object), -1);
        }
        Checks.dueWritten("a text anew", x, 3, false, "74 0001 41");
        Checks.due("its handle", x.handle(3), 0);
        x.set(1, 0, -1);
        Checks.dueWritten("an instance anew", x, 1, false, "73 72 0001 42 0000000000000000 03 0001 4C 0001 61"
            + Bytes.OBJECT_TEXT + "78 70 70 77 04 00000001 78");
        Checks.due("its handle", x.handle(1), 3);
    }
}
