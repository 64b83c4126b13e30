/** "What it is" and the sentences of "Terms" on numbers, classes and objects. */
public final class TermsTest {
    public static void main(String[] args) {
        Checks.section("What it is");
        Checks.sentence("An object is used for at most 512 calls after it has been made", TermsTest::calls);
        Checks.section("Terms");
        Checks.sentence("A number written as 2, 4 or 8 bytes has its highest byte first.", TermsTest::highestFirst);
        Checks.sentence("UTF of signs (all of code 1 .. 127) is their number as 2 bytes, then a byte each.",
            TermsTest::utf);
        Checks.sentence("CLASSES 0 .. 5, named by one sign A .. F, are defined or not (not at first).",
            TermsTest::classes);
        Checks.sentence("One that is has a KIND: 0 PLAIN, 1 SERIAL, 2 CUSTOM, 3 CONSTANT, 4 RECORD;", TermsTest::kinds);
        Checks.sentence("an ID, a long;", TermsTest::ids);
        Checks.sentence("a SUPERCLASS or none;", TermsTest::superclasses);
        Checks.sentence("and up to four FIELDS, in the order they were given", TermsTest::fourFields);
        Checks.sentence("a name a .. z, no two of a class alike, a type, TRANSIENT or not.", TermsTest::fieldNames);
        Checks.sentence("Types: 0 B (1 byte), 1 C (2), 2 I (4), 3 J (8), 4 S (2), 5 Z (1), 6 [I, 7 L;",
            TermsTest::types);
        Checks.sentence("the first six are PRIMITIVE.", TermsTest::primitive);
        Checks.sentence("A class is SERIALIZABLE if its KIND is not PLAIN.", TermsTest::serializable);
        Checks.sentence("OBJECTS 0 .. 11 are numbered in the order they are made", TermsTest::objects);
        Checks.sentence("an INSTANCE of a class of KIND PLAIN, SERIAL, CUSTOM or RECORD", TermsTest::instanceKinds);
        Checks.sentence("it has a value for each FIELD of its class and of all classes above it", TermsTest::slots);
        Checks.sentence("these SLOTS are numbered from 0, those of the topmost class first, each class's in order.",
            TermsTest::slotOrder);
        Checks.sentence("A PRIMITIVE one has the lowest bytes of a number, 0 at first;", TermsTest::primitiveValues);
        Checks.sentence("another one NULL (at first) or an object;", TermsTest::objectValues);
        Checks.sentence("a TEXT of up to 8 signs;", TermsTest::textSigns);
        Checks.sentence("INTS, up to 6 ints (0 at first);", TermsTest::ints);
        Checks.sentence("REFS, up to 4 values, each NULL (at first) or an object;", TermsTest::refs);
        Checks.sentence("a CONSTANT of a class of that KIND, with a name of one sign a .. z.", TermsTest::constants);
        Checks.sentence("An INSTANCE may have a REPLACEMENT, another object; and has an EXTRA, an int, 0 at first.",
            TermsTest::noReplacementNoExtra);
        Checks.end();
    }

    /** The last three of exactly 512 calls still answer as due. */
    private static void calls() {
        GraphWriter x = new GraphWriter();
        Checks.due("call 1", x.text(0x41), 0);
        for (int call = 2; call <= 256; call++) {
            Checks.due("call " + call, x.data(call, 1), call == 256 ? 0 : call - 1);
        }
        for (int call = 257; call <= 509; call++) {
            Checks.due("call " + call, x.write(-1, false), 261 + call - 256);
        }
        Checks.due("call 510", x.write(0, false), 518);
        Checks.due("call 511", x.handle(0), 0);
        Checks.due("call 512", x.byteAt(517), 0x41);
    }

    private static void highestFirst() {
        GraphWriter x = new GraphWriter();
        x.define(0, 1, -1, 0x0102030405060708L);
        x.field(0, 0, 4, false);
        x.field(0, 1, 2, false);
        x.field(0, 2, 3, false);
        x.instance(0);
        x.set(0, 0, 0x1112);
        x.set(0, 1, 0x21222324);
        x.set(0, 2, 0x3132333435363738L);
        Checks.dueWritten("numbers of 2, 4 and 8 bytes", x, 0, false, "73 72 0001 41 0102030405060708 02 0003 "
            + "53 0001 61 49 0001 62 4A 0001 63 78 70 1112 21222324 3132333435363738");
    }

    private static void utf() {
        GraphWriter x = new GraphWriter();
        x.text(0);
        x.text(0x017F);
        x.text(0x4142434445464748L);
        Checks.dueWritten("no signs", x, 0, false, "74 0000");
        Checks.dueWritten("the lowest and the highest code", x, 1, false, "74 0002 01 7F");
        Checks.dueWritten("eight signs", x, 2, false, "74 0008 4142434445464748");
    }

    private static void classes() {
        GraphWriter x = new GraphWriter();
        for (int number = -1; number <= 6; number++) {
            Checks.due("at first instance(" + number + ")", x.instance(number), -1);
        }
        Checks.due("classes defined at first", x.count(4), 0);
        Checks.due("class -1", x.define(-1, 1, -1, 0), -1);
        Checks.due("class 6", x.define(6, 1, -1, 0), -1);
        for (int number = 0; number <= 5; number++) {
            Checks.due("class " + number, x.define(number, 1, -1, 0), 0);
            x.instance(number);
            Checks.dueWritten("sign of class " + number, x, number, false, "73" + Bytes.bare(number, "02") + "70");
        }
    }

    private static void kinds() {
        String serial = "73" + Bytes.bare(0, "02") + "70";
        String custom = "73" + Bytes.bare(0, "03") + "70 77 04 00000000 78";
        String constant = "7E" + Bytes.bare(0, "12") + Bytes.ENUM + "74 0001 61";
        String[] written = {"7B 79 74 0001 41 79", serial, custom, constant, serial};
        for (int kind = 0; kind < 5; kind++) {
            GraphWriter x = new GraphWriter();
            Checks.due("kind " + kind, x.define(0, kind, -1, 0), 0);
            // A record is told from a serial class by what may stand below it.
            Checks.due("a class below kind " + kind, x.define(1, 1, 0, 0), kind < 3 ? 0 : -1);
            Checks.due("an instance of kind " + kind, x.instance(0), kind == 3 ? -1 : 0);
            Checks.due("a constant of kind " + kind, x.constant(0, 0), kind == 3 ? 0 : -1);
            x.write(0, false);
            Checks.dueStream("kind " + kind, x, written[kind]);
        }
        GraphWriter x = new GraphWriter();
        Checks.due("kind -1", x.define(0, -1, -1, 0), -1);
        Checks.due("kind 5", x.define(0, 5, -1, 0), -1);
    }

    private static void ids() {
        long[] ids = {0, 1, -1, 1L << 32, Long.MAX_VALUE, Long.MIN_VALUE};
        int[] kinds = {1, 2, 4};
        for (long id : ids) {
            for (int kind : kinds) {
                GraphWriter x = new GraphWriter();
                Checks.due("ID " + id, x.define(0, kind, -1, id), 0);
                x.instance(0);
                Checks.due("an instance with ID " + id, x.write(0, false), kind == 2 ? 29 : 22);
                Checks.due("ID " + id + " of kind " + kind, Checks.hex(x, 9).substring(0, 16),
                    String.format("%016X", id));
            }
        }
    }

    private static void superclasses() {
        GraphWriter x = new GraphWriter();
        Checks.due("none", x.define(0, 1, -1, 0), 0);
        Checks.due("class 0", x.define(1, 1, 0, 0), 0);
        Checks.due("class 0 again", x.define(2, 1, 0, 0), 0);
        Checks.due("class -2", x.define(3, 1, -2, 0), -1);
        Checks.due("itself", x.define(3, 1, 3, 0), -1);
        x.instance(0);
        x.instance(1);
        x.instance(2);
        Checks.dueWritten("one above", x, 1, false, "73" + Bytes.bare(1, "02") + Bytes.bare(0, "02") + "70");
        Checks.dueWritten("the same above", x, 2, false, "73" + Bytes.bare(2, "02") + Bytes.back(1));
        Checks.dueWritten("itself alone", x, 0, false, "73" + Bytes.back(1));
    }

    /** Names that fall while the fields are given, so that the descriptor turns their order round. */
    private static void fourFields() {
        GraphWriter x = new GraphWriter();
        x.define(0, 1, -1, 0);
        x.define(1, 1, -1, 0);
        for (int i = 1; i <= 4; i++) {
            Checks.due("field " + i, x.field(1, 4 - i, 0, false), i);
        }
        Checks.due("a fifth field", x.field(1, 25, 0, false), -1);
        x.instance(0);
        x.instance(1);
        for (int slot = 0; slot < 4; slot++) {
            x.set(1, slot, 0x10 + slot);
        }
        Checks.dueWritten("no fields", x, 0, false, "73" + Bytes.bare(0, "02") + "70");
        Checks.dueWritten("four fields", x, 1, false, "73 72 0001 42 0000000000000000 02 0004 42 0001 61 42 0001 62 "
            + "42 0001 63 42 0001 64 78 70 13 12 11 10");
    }

    private static void fieldNames() {
        GraphWriter x = new GraphWriter();
        x.define(0, 1, -1, 0);
        x.define(1, 1, 0, 0);
        Checks.due("name a", x.field(0, 0, 0, false), 1);
        Checks.due("name z", x.field(0, 25, 0, false), 2);
        Checks.due("name a again", x.field(0, 0, 0, false), -1);
        Checks.due("name z again, with another type", x.field(0, 25, 7, false), -1);
        Checks.due("name z again, transient", x.field(0, 25, 0, true), -1);
        Checks.due("name z in the class below", x.field(1, 25, 0, true), 1);
        x.instance(0);
        x.instance(1);
        Checks.dueWritten("a and z", x, 0, false,
            "73 72 0001 41 0000000000000000 02 0002 42 0001 61 42 0001 7A 78 70 00 00");
        Checks.dueWritten("a transient one", x, 1, false, "73" + Bytes.bare(1, "02") + Bytes.back(0) + "00 00");
    }

    private static void types() {
        String[] fields = {"42 0001 61 ", "43 0001 61 ", "49 0001 61 ", "4A 0001 61 ", "53 0001 61 ", "5A 0001 61 ",
            "5B 0001 61 " + Bytes.INTS_TEXT, "4C 0001 61 " + Bytes.OBJECT_TEXT};
        String[] values = {"01", "7701", "55667701", "1122334455667701", "7701", "01", "70", "70"};
        for (int type = 0; type < 8; type++) {
            GraphWriter x = new GraphWriter();
            x.define(0, 1, -1, 0);
            Checks.due("type " + type, x.field(0, 0, type, false), 1);
            x.instance(0);
            x.set(0, 0, type < 6 ? 0x1122334455667701L : -1);
            Checks.dueWritten("type " + type, x, 0, false,
                "73 72 0001 41 0000000000000000 02 0001 " + fields[type] + "78 70" + values[type]);
        }
    }

    /** A number that is no object's stands in the first six types, and in no other. */
    private static void primitive() {
        for (int type = 0; type < 8; type++) {
            GraphWriter x = new GraphWriter();
            x.define(0, 1, -1, 0);
            x.field(0, 0, type, false);
            x.instance(0);
            Checks.due("99 for type " + type, x.set(0, 0, 99), type < 6 ? 0 : -1);
        }
    }

    private static void serializable() {
        int[] due = {-3, 4 + 18, 4 + 18 + 7, -1, 4 + 18};
        for (int kind = 0; kind < 5; kind++) {
            GraphWriter x = new GraphWriter();
            x.define(0, kind, -1, 0);
            x.instance(0);
            Checks.due("write of kind " + kind, x.write(0, false), due[kind]);
        }
        String[] above = {"70", Bytes.bare(0, "02") + "70", Bytes.bare(0, "03") + "70 77 04 00000000 78"};
        for (int kind = 0; kind < 3; kind++) {
            GraphWriter x = new GraphWriter();
            x.define(0, kind, -1, 0);
            x.define(1, 1, 0, 0);
            x.instance(1);
            Checks.dueWritten("below kind " + kind, x, 0, false, "73" + Bytes.bare(1, "02") + above[kind]);
        }
    }

    private static void objects() {
        GraphWriter x = new GraphWriter();
        x.define(0, 1, -1, 0);
        x.define(1, 3, -1, 0);
        for (int object = 0; object < 12; object += 4) {
            Checks.due("object(" + object + ") before it is made", x.object(object, 0), -1);
            Checks.due("object " + object, x.instance(0), object);
            Checks.due("object " + (object + 1), x.text(0x41), object + 1);
            Checks.due("object " + (object + 2), x.array(object == 4, 2), object + 2);
            Checks.due("object " + (object + 3), x.constant(1, 0), object + 3);
        }
        Checks.due("a thirteenth", x.text(0x41), -2);
        Checks.due("object(-1)", x.object(-1, 0), -1);
        Checks.due("object(11)", x.object(11, 0), 4);
        Checks.due("object(12)", x.object(12, 0), -1);
    }

    private static void instanceKinds() {
        for (int kind = 0; kind < 5; kind++) {
            GraphWriter x = new GraphWriter();
            x.define(0, kind, -1, 0);
            Checks.due("instance of kind " + kind, x.instance(0), kind == 3 ? -1 : 0);
            Checks.due("its sort", x.object(0, 0), kind == 3 ? -1 : 0);
        }
    }

    private static void slots() {
        GraphWriter x = new GraphWriter();
        for (int number = 0; number < 6; number++) {
            x.define(number, number == 0 ? 0 : 1, number - 1, 0);
            for (int name = 0; number > 0 && name < 4; name++) {
                x.field(number, name, 0, name % 2 == 0);
            }
        }
        x.instance(0);
        Checks.due("slots of a class without fields", x.object(0, 2), 0);
        Checks.due("its slot 0", x.set(0, 0, 0), -1);
        x.instance(5);
        Checks.due("slots below five classes", x.object(1, 2), 20);
        Checks.due("slot 19", x.set(1, 19, 0), 0);
        Checks.due("slot 20", x.set(1, 20, 0), -1);
        x.instance(2);
        Checks.due("slots below two classes", x.object(2, 2), 8);
        Checks.due("slot 8", x.set(2, 8, 0), -1);
        GraphWriter y = new GraphWriter();
        for (int number = 0; number < 6; number++) {
            y.define(number, 0, number - 1, 0);
            for (int name = 0; name < 4; name++) {
                y.field(number, name, 0, false);
            }
        }
        y.instance(5);
        Checks.due("the most slots", y.object(0, 2), 24);
        Checks.due("slot 23", y.set(0, 23, 0), 0);
        Checks.due("slot 24", y.set(0, 24, 0), -1);
    }

    private static void slotOrder() {
        GraphWriter x = new GraphWriter();
        x.define(4, 0, -1, 0);
        x.field(4, 0, 0, false);
        x.define(5, 1, 4, 0);
        x.field(5, 1, 0, false);
        x.field(5, 0, 0, false);
        x.define(0, 1, 5, 0);
        x.field(0, 0, 0, false);
        x.field(0, 1, 0, false);
        x.instance(0);
        for (int slot = 0; slot < 5; slot++) {
            x.set(0, slot, 0x10 + slot);
        }
        x.write(0, false);
        Checks.dueEnd("a, b of the class above, then a, b of the class", x, "78 70 12 11 13 14");
    }

    private static void primitiveValues() {
        GraphWriter x = new GraphWriter();
        x.define(1, 1, -1, 0);
        x.define(0, 1, 1, 0);
        for (int type = 0; type < 6; type++) {
            x.field(type < 4 ? 1 : 0, type, type, false);
        }
        x.instance(0);
        x.write(0, false);
        Checks.dueEnd("first values", x, "78 70 00 0000 00000000 0000000000000000 0000 00");
        for (int slot = 0; slot < 6; slot++) {
            x.set(0, slot, 0x8182838485868789L);
        }
        x.write(0, true);
        Checks.dueEnd("lowest bytes", x, "89 8789 85868789 8182838485868789 8789 01");
        for (int slot = 0; slot < 6; slot++) {
            x.set(0, slot, -1);
        }
        x.write(0, true);
        Checks.dueEnd("lowest bytes of -1", x, "FF FFFF FFFFFFFF FFFFFFFFFFFFFFFF FFFF 01");
    }

    private static void objectValues() {
        GraphWriter x = new GraphWriter();
        x.define(0, 1, -1, 0);
        x.field(0, 0, 6, false);
        x.field(0, 1, 7, false);
        x.instance(0);
        x.array(false, 0);
        x.text(0x41);
        x.write(0, false);
        Checks.dueEnd("NULL at first", x, "78 70 70 70");
        x.set(0, 0, 1);
        x.set(0, 1, 2);
        Checks.dueWritten("objects", x, 0, true, "73" + Bytes.back(0) + "75" + Bytes.INTS + "00000000 74 0001 41");
    }

    private static void textSigns() {
        GraphWriter x = new GraphWriter();
        x.text(0);
        x.text(0x01);
        x.text(0x7F7F7F7F7F7F7F7FL);
        Checks.due("no signs", x.object(0, 2), 0);
        Checks.due("one sign", x.object(1, 2), 1);
        Checks.due("eight signs", x.object(2, 2), 8);
    }

    private static void ints() {
        GraphWriter x = new GraphWriter();
        x.array(false, 6);
        Checks.due("places", x.object(0, 2), 6);
        Checks.due("one int more", x.array(false, 7), -1);
        Checks.dueWritten("0 at first", x, 0, false,
            "75" + Bytes.INTS + "00000006 00000000 00000000 00000000 00000000 00000000 00000000");
    }

    private static void refs() {
        GraphWriter x = new GraphWriter();
        x.array(true, 4);
        Checks.due("places", x.object(0, 2), 4);
        Checks.due("one value more", x.array(true, 5), -1);
        Checks.dueWritten("NULL at first", x, 0, false, "75" + Bytes.REFS + "00000004 70 70 70 70");
        x.set(0, 3, 0);
        Checks.dueWritten("an object", x, 0, true, "75" + Bytes.back(0) + "00000004 70 70 70" + Bytes.back(2));
    }

    private static void constants() {
        GraphWriter x = new GraphWriter();
        x.define(0, 3, -1, 0);
        x.constant(0, 0);
        x.constant(0, 25);
        Checks.due("before a", x.constant(0, -1), -1);
        Checks.due("behind z", x.constant(0, 26), -1);
        x.write(0, false);
        Checks.dueEnd("name a", x, "74 0001 61");
        x.write(1, false);
        Checks.dueEnd("name z", x, "74 0001 7A");
    }

    private static void noReplacementNoExtra() {
        GraphWriter x = new GraphWriter();
        x.define(0, 2, -1, 0);
        x.instance(0);
        x.text(0x41);
        String block = "77 04 00000000 78";
        Checks.dueWritten("itself, with no extra", x, 0, false, "73" + Bytes.bare(0, "03") + "70" + block);
        Checks.due("another object", x.replace(0, 1), 0);
        Checks.dueWritten("the replacement", x, 0, false, "74 0001 41");
        Checks.due("none again", x.replace(0, -1), 0);
        Checks.due("the highest extra", x.extra(0, Integer.MAX_VALUE), 0);
        Checks.dueWritten("the highest extra", x, 0, true, "73" + Bytes.back(0) + "77 04 7FFFFFFF 78");
        Checks.due("the lowest extra", x.extra(0, Integer.MIN_VALUE), 0);
        Checks.dueWritten("the lowest extra", x, 0, true, "73" + Bytes.back(0) + "77 04 80000000 78");
    }
}
