import java.util.Arrays;

/** The sentences of "Terms" on the DESCRIPTOR. */
public final class DescriptorTest {
    public static void main(String[] args) {
        Checks.section("Terms");
        Checks.sentence("TO WRITE the DESCRIPTOR of a class (or of INTS, or of REFS): if it has a handle: 71 and it as "
            + "above.", DescriptorTest::withHandle);
        Checks.sentence("Else 72, its name in UTF, its ID as 8 bytes, a handle, its flags as 1 byte,",
            DescriptorTest::ids);
        Checks.sentence("the number of its FIELDS that are not TRANSIENT as 2 bytes;", DescriptorTest::fieldNumbers);
        Checks.sentence("these FIELDS, the PRIMITIVE ones first, each group by rising names:",
            DescriptorTest::fieldOrder);
        Checks.sentence("a byte, the type's sign (B C I J S Z, '[' for type 6, 'L' for 7), its name in UTF,",
            DescriptorTest::signs);
        Checks.sentence("and for types 6 and 7 the TYPE TEXT: 71 and its handle if it has one, else 74, a handle, UTF "
            + "('[I', 'Ljava/lang/Object;');", DescriptorTest::typeTexts);
        Checks.sentence("then 78; then the DESCRIPTOR of its SUPERCLASS if that is SERIALIZABLE, else 70.",
            DescriptorTest::superclasses);
        Checks.sentence("Flags: 02; CUSTOM 03; CONSTANT 12.", DescriptorTest::flags);
        Checks.sentence("A CONSTANT class has ID 0 in the stream, no FIELDS, and as if it were its SUPERCLASS a class "
            + "named 'java.lang.Enum' with ID 0, flags 12, no FIELDS and none above.", DescriptorTest::constantClass);
        Checks.sentence("INTS: named '[I', ID 4DBA602676EAB2A5, REFS: '[Ljava.lang.Object;', ID 90CE589F1073296C; "
            + "flags 02, no FIELDS, none above.", DescriptorTest::arrays);
        Checks.end();
    }

    private static void withHandle() {
        GraphWriter x = new GraphWriter();
        x.define(3, 1, -1, 0);
        x.define(2, 3, -1, 0);
        for (int i = 0; i < 3; i++) {
            x.instance(3);
            x.array(false, 0);
            x.array(true, 0);
            x.constant(2, i);
        }
        for (int object = 0; object < 4; object++) {
            x.write(object, false);
        }
        Checks.dueWritten("class", x, 4, false, "73" + Bytes.back(0));
        Checks.dueWritten("ints", x, 5, false, "75" + Bytes.back(2) + "00000000");
        Checks.dueWritten("refs", x, 6, false, "75" + Bytes.back(4) + "00000000");
        Checks.dueWritten("constant class", x, 7, false, "7E" + Bytes.back(6) + "74 0001 62");
        x.reset();
        Checks.dueWritten("class after a reset", x, 8, false, "73" + Bytes.bare(3, "02") + "70");
        Checks.dueWritten("ints after a reset", x, 9, false, "75" + Bytes.INTS + "00000000");
        Checks.dueWritten("refs after a reset", x, 10, false, "75" + Bytes.REFS + "00000000");
        Checks.dueWritten("constant class after a reset", x, 11, false,
            "7E" + Bytes.bare(2, "12") + Bytes.ENUM + "74 0001 63");
    }

    private static void ids() {
        long[] ids = {0, 1, -1, Long.MIN_VALUE, Long.MAX_VALUE, 0x0123456789ABCDEFL};
        for (int number = 0; number < 6; number++) {
            GraphWriter x = new GraphWriter();
            x.define(number, 1, -1, ids[number]);
            x.instance(number);
            Checks.dueWritten("ID " + ids[number], x, 0, false,
                String.format("73 72 0001 %02X %016X 02 0000 78 70", 'A' + number, ids[number]));
            Checks.due("the class has a handle too", x.handle(0), 1);
        }
        // The handle of a class comes before those of its type texts, and these before its superclass's.
        GraphWriter y = new GraphWriter();
        y.define(0, 1, -1, 0);
        y.define(1, 1, 0, 0);
        y.field(1, 0, 7, false);
        y.instance(1);
        y.instance(0);
        y.write(0, false);
        Checks.dueWritten("the superclass is the third", y, 1, false, "73" + Bytes.back(2));
        Checks.dueWritten("the class is the first", y, 0, true, "73" + Bytes.back(0) + "70");
    }

    private static void fieldNumbers() {
        for (int all = 0; all <= 4; all++) {
            for (int transients = 0; transients <= all; transients++) {
                GraphWriter x = new GraphWriter();
                x.define(0, 1, -1, 0);
                StringBuilder fields = new StringBuilder();
                for (int name = 0; name < all; name++) {
                    x.field(0, name, 0, name < transients);
                    fields.append(name < transients ? "" : String.format("42 0001 %02X", 'a' + name));
                }
                x.instance(0);
                Checks.dueWritten(transients + " transient ones of " + all, x, 0, false,
                    String.format("73 72 0001 41 0000000000000000 02 %04X ", all - transients) + fields + "78 70"
                        + "00".repeat(all - transients));
            }
        }
    }

    private static void fieldOrder() {
        GraphWriter x = new GraphWriter();
        x.define(4, 1, -1, 0);
        x.field(4, 1, 7, false);
        x.field(4, 25, 2, false);
        x.field(4, 0, 6, false);
        x.field(4, 24, 0, false);
        x.instance(4);
        x.set(0, 1, 0x11223344);
        x.set(0, 3, 0x55);
        Checks.dueWritten("primitive ones first, though their names come last", x, 0, false,
            "73 72 0001 45 0000000000000000 02 0004 42 0001 79 49 0001 7A 5B 0001 61" + Bytes.INTS_TEXT
                + "4C 0001 62" + Bytes.OBJECT_TEXT + "78 70 55 11223344 70 70");
        fieldOrders();
    }

    /** All orders in which four names can be given, for primitive fields and for others. */
    private static void fieldOrders() {
        for (int order = 0; order < 256; order++) {
            int[] names = {order & 3, order >> 2 & 3, order >> 4 & 3, order >> 6};
            if (Arrays.stream(names).distinct().count() == 4) {
                primitiveOrder(names);
                otherOrder(names);
            }
        }
    }

    private static void primitiveOrder(int[] names) {
        GraphWriter x = withFields(names, 0);
        for (int slot = 0; slot < 4; slot++) {
            x.set(0, slot, 0x10 + names[slot]);
        }
        Checks.dueWritten("primitive ones given as " + Arrays.toString(names), x, 0, false,
            "73 72 0001 41 0000000000000000 02 0004 42 0001 61 42 0001 62 42 0001 63 42 0001 64 78 70 10 11 12 13");
    }

    private static void otherOrder(int[] names) {
        GraphWriter x = withFields(names, 7);
        for (int slot = 0; slot < 4; slot++) {
            x.set(0, slot, x.text('a' + names[slot]));
        }
        Checks.dueWritten("others given as " + Arrays.toString(names), x, 0, false,
            "73 72 0001 41 0000000000000000 02 0004 4C 0001 61" + Bytes.OBJECT_TEXT + "4C 0001 62" + Bytes.back(1)
                + "4C 0001 63" + Bytes.back(1) + "4C 0001 64" + Bytes.back(1) + "78 70 "
                + "74 0001 61 74 0001 62 74 0001 63 74 0001 64");
    }

    private static GraphWriter withFields(int[] names, int type) {
        GraphWriter x = new GraphWriter();
        x.define(0, 1, -1, 0);
        for (int name : names) {
            x.field(0, name, type, false);
        }
        x.instance(0);
        return x;
    }

    private static void signs() {
        String[] signs = {"42", "43", "49", "4A", "53", "5A", "5B", "4C"};
        for (int type = 0; type < 8; type++) {
            GraphWriter x = new GraphWriter();
            x.define(0, 1, -1, 0);
            x.field(0, 25 - type, type, false);
            x.instance(0);
            x.write(0, false);
            String hex = Checks.hex(x, 20);
            Checks.due("type " + type, hex.substring(0, 8), String.format("%s0001%02X", signs[type], 'z' - type));
        }
        GraphWriter y = new GraphWriter();
        y.define(0, 1, -1, 0);
        y.field(0, 0, 0, false);
        y.field(0, 25, 0, false);
        y.instance(0);
        y.write(0, false);
        Checks.dueEnd("the first and the last name", y, "42 0001 61 42 0001 7A 78 70 00 00");
    }

    private static void typeTexts() {
        GraphWriter x = new GraphWriter();
        x.define(0, 1, -1, 0);
        x.field(0, 0, 7, false);
        x.field(0, 1, 7, false);
        x.field(0, 2, 6, false);
        x.field(0, 3, 6, false);
        x.define(1, 1, -1, 0);
        x.field(1, 0, 6, false);
        x.field(1, 1, 7, false);
        x.instance(0);
        x.instance(1);
        Checks.dueWritten("the first of each", x, 0, false, "73 72 0001 41 0000000000000000 02 0004 4C 0001 61"
            + Bytes.OBJECT_TEXT + "4C 0001 62" + Bytes.back(1) + "5B 0001 63" + Bytes.INTS_TEXT + "5B 0001 64"
            + Bytes.back(2) + "78 70 70 70 70 70");
        Checks.dueWritten("in another class", x, 1, false, "73 72 0001 42 0000000000000000 02 0002 5B 0001 61"
            + Bytes.back(2) + "4C 0001 62" + Bytes.back(1) + "78 70 70 70");
        x.reset();
        Checks.dueWritten("after a reset", x, 1, false, "73 72 0001 42 0000000000000000 02 0002 5B 0001 61"
            + Bytes.INTS_TEXT + "4C 0001 62" + Bytes.OBJECT_TEXT + "78 70 70 70");
        GraphWriter y = new GraphWriter();
        y.define(0, 1, -1, 0);
        y.field(0, 0, 6, true);
        y.field(0, 1, 7, true);
        y.instance(0);
        Checks.dueWritten("none for transient ones", y, 0, false, "73" + Bytes.bare(0, "02") + "70");
    }

    private static void superclasses() {
        GraphWriter x = new GraphWriter();
        for (int number = 0; number < 6; number++) {
            x.define(number, number < 2 ? 0 : 1, number - 1, 0);
        }
        x.instance(5);
        x.instance(3);
        x.instance(4);
        Checks.dueWritten("up to the first plain one", x, 1, false,
            "73" + Bytes.bare(3, "02") + Bytes.bare(2, "02") + "70");
        Checks.dueWritten("up to the first with a handle", x, 0, false,
            "73" + Bytes.bare(5, "02") + Bytes.bare(4, "02") + Bytes.back(0));
        Checks.dueWritten("with a handle itself", x, 2, false, "73" + Bytes.back(4));
        GraphWriter y = new GraphWriter();
        for (int number = 0; number < 6; number++) {
            y.define(5 - number, 1, number == 0 ? -1 : 6 - number, 0);
        }
        y.instance(0);
        StringBuilder all = new StringBuilder();
        for (int number = 0; number < 6; number++) {
            all.append(Bytes.bare(number, "02"));
        }
        Checks.dueWritten("all six", y, 0, false, "73" + all + "70");
        Checks.due("their handles and its own", y.handle(0), 6);
    }

    private static void flags() {
        String[] flags = {"", "02", "03", "12", "02"};
        for (int kind = 1; kind < 5; kind++) {
            GraphWriter x = new GraphWriter();
            x.define(0, kind, -1, 0);
            if (kind == 3) {
                x.constant(0, 0);
            } else {
                x.instance(0);
            }
            x.write(0, false);
            Checks.due("flags of kind " + kind, Integer.toHexString(x.byteAt(17)), Integer.toHexString(
                Integer.parseInt(flags[kind], 16)));
        }
    }

    private static void constantClass() {
        GraphWriter x = new GraphWriter();
        x.define(5, 3, -1, -1);
        x.define(1, 3, -1, 78);
        Checks.due("a field", x.field(5, 0, 0, false), -1);
        x.constant(5, 0);
        x.constant(1, 25);
        Checks.dueWritten("the first", x, 0, false, "7E 72 0001 46 0000000000000000 12 0000 78 "
            + "72 000E 6A6176612E6C616E672E456E756D 0000000000000000 12 0000 78 70 74 0001 61");
        Checks.dueWritten("the second, with what is above by its handle", x, 1, false,
            "7E 72 0001 42 0000000000000000 12 0000 78 71 007E0001 74 0001 7A");
    }

    private static void arrays() {
        GraphWriter x = new GraphWriter();
        x.array(false, 0);
        x.array(true, 0);
        Checks.dueWritten("ints", x, 0, false, "75 72 0002 5B49 4DBA602676EAB2A5 02 0000 78 70 00000000");
        Checks.dueWritten("refs", x, 1, false,
            "75 72 0013 5B4C6A6176612E6C616E672E4F626A6563743B 90CE589F1073296C 02 0000 78 70 00000000");
    }
}
