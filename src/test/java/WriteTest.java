/** Promises 12 and 15: write, handle. */
public final class WriteTest {
    private static final String INTS = "72 0002 5B49 4DBA602676EAB2A5 02 0000 78 70 ";
    private static final String REFS = "72 0013 5B4C6A6176612E6C616E672E4F626A6563743B 90CE589F1073296C 02 0000 78 70 ";
    private static final String ENUM = "72 000E 6A6176612E6C616E672E456E756D 0000000000000000 12 0000 78 70 ";
    private static final String OBJECT_TEXT = "74 0012 4C6A6176612F6C616E672F4F626A6563743B ";

    public static void main(String[] args) {
        numbers();
        sharedAndUnshared();
        descriptorOrder();
        typeTexts();
        chains();
        superclassDescriptors();
        plainAbove();
        constants();
        kinds();
        arraysShareDescriptors();
        rings();
        unsharedInside();
        aborts();
        abortAfterData();
        deepest();
        allThatHaveHandles();
        Checks.end();
    }

    private static void numbers() {
        GraphWriter x = new GraphWriter();
        x.text(0x41);
        x.data(1, 1);
        Checks.due("write(-2)", x.write(-2, false), -1);
        Checks.due("write(1)", x.write(1, false), -1);
        Checks.due("write(12)", x.write(12, true), -1);
        Checks.due("refused calls flush nothing", x.count(1), 1);
        Checks.due("handle(-1)", x.handle(-1), -1);
        Checks.due("handle(0)", x.handle(0), -1);
        Checks.due("handle(1)", x.handle(1), -1);
        Checks.due("handle(12)", x.handle(12), -1);
        Checks.due("write null", x.write(-1, false), 8);
        Checks.due("write null unshared", x.write(-1, true), 9);
        Checks.dueStream("nulls", x, "77 01 01 70 70");
        Checks.due("no handle for null", x.count(2), 0);
    }

    private static void sharedAndUnshared() {
        GraphWriter x = new GraphWriter();
        x.text(0x4142);
        Checks.due("first", x.write(0, false), 9);
        Checks.due("second", x.write(0, false), 14);
        Checks.due("unshared", x.write(0, true), 19);
        Checks.due("last handle", x.handle(0), 1);
        Checks.due("shared again", x.write(0, false), 24);
        Checks.dueStream("texts", x, "74 0002 4142 71 007E0000 74 0002 4142 71 007E0001");
        Checks.due("handles", x.count(2), 2);
        GraphWriter y = new GraphWriter();
        y.text(0x41);
        y.write(0, true);
        y.write(0, false);
        Checks.dueStream("first unshared, then shared", y, "74 0001 41 71 007E0000");
    }

    private static void descriptorOrder() {
        GraphWriter x = new GraphWriter();
        x.define(4, 1, -1, 0x0123456789ABCDEFL);
        x.field(4, 25, 7, false);
        x.field(4, 20, 2, false);
        x.field(4, 24, 6, false);
        x.field(4, 3, 0, false);
        x.instance(4);
        x.set(0, 1, 0x11223344);
        x.set(0, 3, 0x55);
        x.write(0, false);
        Checks.dueStream("primitive ones first, by rising names", x, "73 72 0001 45 0123456789ABCDEF 02 0004 "
            + "42 0001 64 49 0001 75 5B 0001 79 74 0002 5B49 4C 0001 7A " + OBJECT_TEXT + "78 70 55 11223344 70 70");
        Checks.due("handle", x.handle(0), 3);
        GraphWriter y = new GraphWriter();
        y.define(0, 1, -1, -1);
        y.field(0, 3, 3, true);
        y.field(0, 2, 1, false);
        y.field(0, 1, 4, false);
        y.field(0, 0, 5, false);
        y.instance(0);
        y.set(0, 0, -1);
        y.set(0, 1, 0xAAAA);
        y.set(0, 2, 0xBBBB);
        y.set(0, 3, 1);
        y.write(0, false);
        Checks.dueStream("transient ones left out", y, "73 72 0001 41 FFFFFFFFFFFFFFFF 02 0003 "
            + "5A 0001 61 53 0001 62 43 0001 63 78 70 01 BBBB AAAA");
    }

    private static void typeTexts() {
        GraphWriter x = new GraphWriter();
        x.define(0, 1, -1, 0);
        x.field(0, 0, 7, false);
        x.field(0, 1, 7, false);
        x.field(0, 2, 6, false);
        x.field(0, 3, 6, false);
        x.define(1, 1, -1, 0);
        x.field(1, 0, 6, false);
        x.field(1, 1, 7, false);
        x.instance(0);
        x.instance(1);
        x.write(0, false);
        Checks.dueStream("type texts are shared", x, "73 72 0001 41 0000000000000000 02 0004 4C 0001 61 " + OBJECT_TEXT
            + "4C 0001 62 71 007E0001 5B 0001 63 74 0002 5B49 5B 0001 64 71 007E0002 78 70 70 70 70 70");
        int before = x.count(0);
        x.write(1, false);
        Checks.dueStreamFrom("and among classes", x, before,
            "73 72 0001 42 0000000000000000 02 0002 5B 0001 61 71 007E0002 4C 0001 62 71 007E0001 78 70 70 70");
        x.reset();
        before = x.count(0);
        x.write(1, false);
        Checks.dueStreamFrom("not after a reset", x, before, "73 72 0001 42 0000000000000000 02 0002 5B 0001 61 "
            + "74 0002 5B49 4C 0001 62 " + OBJECT_TEXT + "78 70 70 70");
    }

    private static void chains() {
        GraphWriter x = new GraphWriter();
        x.define(3, 2, -1, 3);
        x.field(3, 0, 0, false);
        x.define(1, 1, 3, 1);
        x.field(1, 0, 0, false);
        x.define(2, 2, 1, 2);
        x.field(2, 1, 0, false);
        x.field(2, 0, 7, false);
        x.instance(2);
        x.set(0, 0, 0xA0);
        x.set(0, 1, 0xA1);
        x.set(0, 2, 0xA2);
        x.set(0, 3, 0);
        x.extra(0, 0x100);
        x.write(0, false);
        Checks.dueStream("a chain", x, "73 72 0001 43 0000000000000002 03 0002 42 0001 62 4C 0001 61 " + OBJECT_TEXT
            + "78 72 0001 42 0000000000000001 02 0001 42 0001 61 78 72 0001 44 0000000000000003 03 0001 42 0001 61 78 70 "
            + "A0 77 04 00000103 78 A1 A2 71 007E0004 77 04 00000102 78");
    }

    private static void superclassDescriptors() {
        GraphWriter x = new GraphWriter();
        x.define(0, 1, -1, 0);
        x.define(1, 1, 0, 0);
        x.define(2, 1, 0, 0);
        x.instance(1);
        x.instance(2);
        x.instance(0);
        x.write(0, false);
        int before = x.count(0);
        x.write(1, false);
        Checks.dueStreamFrom("superclass with a handle", x, before,
            "73 72 0001 43 0000000000000000 02 0000 78 71 007E0001");
        before = x.count(0);
        x.write(2, false);
        Checks.dueStreamFrom("class with a handle", x, before, "73 71 007E0001");
    }

    private static void plainAbove() {
        GraphWriter x = new GraphWriter();
        x.define(0, 0, -1, 9);
        x.field(0, 0, 2, false);
        x.field(0, 1, 7, false);
        x.define(1, 0, 0, 9);
        x.field(1, 0, 2, false);
        x.define(2, 2, 1, 7);
        x.field(2, 0, 0, false);
        x.instance(2);
        x.set(0, 0, 1);
        x.set(0, 1, 0);
        x.set(0, 2, 3);
        x.set(0, 3, 4);
        x.write(0, false);
        Checks.dueStream("plain classes above", x, "73 72 0001 43 0000000000000007 03 0001 42 0001 61 78 70 "
            + "04 77 04 00000002 78");
    }

    private static void constants() {
        GraphWriter x = new GraphWriter();
        x.define(5, 3, -1, 77);
        x.define(1, 3, -1, 78);
        x.constant(5, 0);
        x.constant(5, 0);
        x.constant(1, 25);
        x.write(0, false);
        Checks.dueStream("constant", x, "7E 72 0001 46 0000000000000000 12 0000 78 " + ENUM + "74 0001 61");
        Checks.due("handle", x.handle(0), 2);
        Checks.due("handles", x.count(2), 4);
        int before = x.count(0);
        x.write(0, false);
        x.write(1, false);
        x.write(2, false);
        Checks.dueStreamFrom("constants share their descriptors, not their names", x, before, "71 007E0002 "
            + "7E 71 007E0000 74 0001 61 7E 72 0001 42 0000000000000000 12 0000 78 71 007E0001 74 0001 7A");
        before = x.count(0);
        x.write(1, true);
        Checks.dueStreamFrom("unshared, with its name shared", x, before, "7E 71 007E0000 71 007E0005");
        Checks.due("new handle", x.handle(1), 9);
    }

    private static void kinds() {
        String[] flags = {"", "02", "03", "", "02"};
        for (int kind = 1; kind < 5; kind++) {
            GraphWriter x = new GraphWriter();
            x.define(0, kind, -1, 5);
            if (x.instance(0) == 0) {
                x.write(0, false);
                Checks.dueStream("kind " + kind, x, "73 72 0001 41 0000000000000005 " + flags[kind] + " 0000 78 70"
                    + (kind == 2 ? "77 04 00000000 78" : ""));
            }
        }
    }

    private static void arraysShareDescriptors() {
        GraphWriter x = new GraphWriter();
        x.array(false, 1);
        x.array(false, 0);
        x.array(true, 1);
        x.array(true, 2);
        x.set(0, 0, 7);
        x.set(2, 0, 3);
        x.set(3, 1, 2);
        x.set(3, 0, 1);
        x.write(0, false);
        x.write(1, false);
        Checks.dueStream("ints", x, "75 " + INTS + "00000001 00000007 75 71 007E0000 00000000");
        int before = x.count(0);
        x.write(2, false);
        Checks.dueStreamFrom("refs", x, before, "75 " + REFS + "00000001 75 71 007E0003 00000002 71 007E0002 71 007E0004");
        Checks.due("handle of 3", x.handle(3), 5);
    }

    private static void rings() {
        GraphWriter x = new GraphWriter();
        x.define(0, 1, -1, 0);
        x.field(0, 0, 7, false);
        for (int object = 0; object < 12; object++) {
            x.instance(0);
            x.set(object, 0, object - 1);
        }
        x.set(0, 0, 11);
        x.write(3, false);
        for (int object = 0; object < 12; object++) {
            Checks.due("ring handle of " + object, x.handle(object), 2 + (15 - object) % 12);
        }
        Checks.dueEnd("the ring closes", x, "73 71 007E0000 71 007E0002");
        GraphWriter y = new GraphWriter();
        for (int object = 0; object < 12; object++) {
            y.array(true, 1);
            y.set(object, 0, object - 1);
        }
        y.set(0, 0, 11);
        Checks.due("refs in one another", y.write(11, false), 4 + 35 + 12 * 5 + 11 * 5 + 5);
        Checks.due("handle of the innermost", y.handle(0), 12);
    }

    private static void unsharedInside() {
        GraphWriter x = new GraphWriter();
        x.define(0, 1, -1, 0);
        x.field(0, 0, 7, false);
        x.field(0, 1, 7, false);
        x.instance(0);
        x.text(0x41);
        x.set(0, 0, 0);
        x.set(0, 1, 1);
        x.write(0, true);
        Checks.dueEnd("itself and a text", x, "78 70 71 007E0002 74 0001 41");
        int before = x.count(0);
        x.write(0, true);
        Checks.dueStreamFrom("itself by its new handle, the text shared", x, before, "73 71 007E0000 71 007E0004 71 007E0003");
    }

    private static void aborts() {
        GraphWriter x = new GraphWriter();
        x.define(5, 0, -1, 0);
        x.define(0, 0, 5, 0);
        x.define(1, 1, -1, 0);
        x.field(1, 0, 7, false);
        x.instance(0);
        x.instance(1);
        x.array(true, 4);
        x.set(1, 0, 0);
        x.set(2, 0, -1);
        x.set(2, 1, 1);
        x.set(2, 2, 1);
        Checks.due("abort", x.write(0, false), -3);
        Checks.dueStream("the abort alone", x, "7B 79 74 0001 41 79");
        int before = x.count(0);
        Checks.due("abort inside", x.write(2, false), -3);
        Checks.dueStreamFrom("what was written stays", x, before, "75 " + REFS + "00000004 70 73 72 0001 42 0000000000000000 "
            + "02 0001 4C 0001 61 " + OBJECT_TEXT + "78 70 7B 79 74 0001 41 79");
        Checks.due("no handles", x.count(2), 0);
        for (int object = 0; object < 3; object++) {
            Checks.due("no handle of " + object, x.handle(object), -1);
        }
        x.set(1, 0, -1);
        before = x.count(0);
        Checks.due("after an abort", x.write(1, false), before + 44);
        Checks.due("handles after an abort", x.handle(1), 2);
    }

    private static void abortAfterData() {
        GraphWriter x = new GraphWriter();
        x.define(2, 0, -1, 0);
        x.instance(2);
        x.data(0xABCD, 2);
        Checks.due("abort", x.write(0, true), -3);
        Checks.due("none wait", x.count(1), 0);
        Checks.dueStream("data before the abort", x, "77 02 ABCD 7B 79 74 0001 43 79");
    }

    /** Six classes above one another: 24 slots, and a row of all twelve objects below the first. */
    private static void deepest() {
        GraphWriter x = new GraphWriter();
        for (int number = 0; number < 6; number++) {
            x.define(number, 1, number - 1, number);
            for (int name = 0; name < 4; name++) {
                x.field(number, name, number == 5 && name == 3 ? 7 : 5, name != 3);
            }
        }
        for (int object = 0; object < 12; object++) {
            x.instance(5);
            Checks.due("last slot of " + object, x.set(object, 23, object - 1), 0);
        }
        Checks.due("slots", x.object(11, 2), 24);
        Checks.due("no slot 24", x.set(11, 24, 0), -1);
        int descriptors = 6 * (4 + 8 + 1 + 2 + 4 + 1) + 21 + 1;
        int parts = 12 * (1 + 5) + 11 * 5 + 1;
        Checks.due("all", x.write(11, false), 4 + descriptors + parts);
        Checks.due("handle of the last", x.handle(0), 6 + 1 + 11);
    }

    /** All six classes, both array descriptors, the one above constants, both type texts, all objects and names. */
    private static void allThatHaveHandles() {
        GraphWriter x = new GraphWriter();
        for (int number = 0; number < 5; number++) {
            x.define(number, 1, -1, 0);
        }
        x.define(5, 3, -1, 0);
        x.field(4, 0, 6, false);
        x.field(4, 1, 7, false);
        for (int number = 0; number < 5; number++) {
            x.instance(number);
        }
        x.array(false, 0);
        x.array(true, 0);
        for (int object = 7; object < 12; object++) {
            x.constant(5, object);
        }
        for (int object = 11; object >= 0; object--) {
            x.write(object, false);
        }
        Checks.due("all handles", x.count(2), 6 + 2 + 1 + 2 + 12 + 5);
        for (int object = 0; object < 12; object++) {
            int before = x.count(0);
            Checks.due("reference to " + object, x.write(object, false), before + 5);
            Checks.due("its last byte", x.byteAt(before + 4), x.handle(object));
        }
        Checks.due("handle of the first constant", x.handle(11), 2);
        Checks.due("handle of the last instance", x.handle(0), 27);
    }
}
