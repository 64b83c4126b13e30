/** The sentences of promises 4 to 7: instance, text, array, constant. */
public final class ObjectsTest {
    private static final int LOWEST = Integer.MIN_VALUE;
    private static final int HIGHEST = Integer.MAX_VALUE;

    public static void main(String[] args) {
        Checks.section("Promise 4: instance");
        Checks.sentence("Makes an INSTANCE of a class that is not CONSTANT.", ObjectsTest::instances);
        Checks.sentence("12 objects are there: FULL [instance]", ObjectsTest::fullInstance);
        Checks.sentence("(so for the three calls below, after their tests). [text]", ObjectsTest::fullText);
        Checks.sentence("(so for the three calls below, after their tests). [array]", ObjectsTest::fullArray);
        Checks.sentence("(so for the three calls below, after their tests). [constant]", ObjectsTest::fullConstant);
        Checks.sentence("Answers its number.", ObjectsTest::instanceAnswers);
        Checks.section("Promise 5: text");
        Checks.sentence("Makes a TEXT: the bytes of the number from the highest to the lowest, 0 left out;",
            ObjectsTest::texts);
        Checks.sentence("one above 127: REFUSED.", ObjectsTest::textsAbove127);
        Checks.sentence("Answers its number.", ObjectsTest::textAnswers);
        Checks.section("Promise 6: array");
        Checks.sentence("refs false: INTS of length 0 .. 6;", ObjectsTest::intsLengths);
        Checks.sentence("true: REFS of length 0 .. 4.", ObjectsTest::refsLengths);
        Checks.sentence("Answers its number.", ObjectsTest::arrayAnswers);
        Checks.section("Promise 7: constant");
        Checks.sentence("Makes a CONSTANT of a CONSTANT class;", ObjectsTest::constantClasses);
        Checks.sentence("name 0 .. 25.", ObjectsTest::constantNames);
        Checks.sentence("Answers its number.", ObjectsTest::constantAnswers);
        Checks.end();
    }

    /** Classes 0 .. 4, each of the kind of its number. */
    private static GraphWriter withClasses() {
        GraphWriter x = new GraphWriter();
        for (int kind = 0; kind < 5; kind++) {
            x.define(kind, kind, -1, 0);
        }
        return x;
    }

    private static GraphWriter withObjects(int count) {
        GraphWriter x = withClasses();
        x.field(1, 0, 7, false);
        for (int object = 0; object < count; object++) {
            Checks.due("object " + object, x.text(0x41 + object), object);
        }
        return x;
    }

    private static void instances() {
        for (int kind = 0; kind < 5; kind++) {
            GraphWriter x = withClasses();
            Checks.due("instance of kind " + kind, x.instance(kind), kind == 3 ? -1 : 0);
            Checks.due("its sort", x.object(0, 0), kind == 3 ? -1 : 0);
            Checks.due("its class", x.object(0, 1), kind == 3 ? -1 : kind);
            Checks.due("objects", x.count(3), kind == 3 ? 0 : 1);
        }
        GraphWriter y = withClasses();
        for (int number : new int[] {LOWEST, -1, 5, 6, HIGHEST}) {
            Checks.due("instance of class " + number, y.instance(number), -1);
        }
        Checks.due("objects", y.count(3), 0);
    }

    private static void fullInstance() {
        Checks.due("the twelfth", withObjects(11).instance(1), 11);
        Checks.dueUnchanged("the thirteenth", () -> withObjects(12), x -> x.instance(1), -2);
        GraphWriter x = withObjects(12);
        Checks.due("of a class not there", x.instance(5), -1);
        Checks.due("of a constant class", x.instance(3), -1);
        Checks.due("full", x.instance(1), -2);
        Checks.due("no object was made of the class", x.field(1, 1, 0, false), 2);
        x.reset();
        Checks.due("full after a reset", x.instance(1), -2);
    }

    private static void fullText() {
        Checks.due("the twelfth", withObjects(11).text(0x7F), 11);
        Checks.dueUnchanged("the thirteenth", () -> withObjects(12), x -> x.text(0x7F), -2);
        Checks.dueUnchanged("an empty one", () -> withObjects(12), x -> x.text(0), -2);
        Checks.due("with a sign above 127", withObjects(12).text(0x80), -1);
    }

    private static void fullArray() {
        Checks.due("the twelfth, ints", withObjects(11).array(false, 6), 11);
        Checks.due("the twelfth, refs", withObjects(11).array(true, 4), 11);
        Checks.dueUnchanged("the thirteenth, ints", () -> withObjects(12), x -> x.array(false, 6), -2);
        Checks.dueUnchanged("the thirteenth, refs", () -> withObjects(12), x -> x.array(true, 4), -2);
        Checks.dueUnchanged("the thirteenth, of length 0", () -> withObjects(12), x -> x.array(true, 0), -2);
        Checks.due("too many ints", withObjects(12).array(false, 7), -1);
        Checks.due("too many refs", withObjects(12).array(true, 5), -1);
        Checks.due("too few ints", withObjects(12).array(false, -1), -1);
        Checks.due("too few refs", withObjects(12).array(true, -1), -1);
    }

    private static void fullConstant() {
        Checks.due("the twelfth", withObjects(11).constant(3, 25), 11);
        Checks.dueUnchanged("the thirteenth", () -> withObjects(12), x -> x.constant(3, 25), -2);
        Checks.due("of a class not there", withObjects(12).constant(5, 25), -1);
        Checks.due("of another class", withObjects(12).constant(1, 25), -1);
        Checks.due("of a name out of range", withObjects(12).constant(3, 26), -1);
    }

    private static void instanceAnswers() {
        GraphWriter x = withClasses();
        for (int object = 0; object < 12; object++) {
            Checks.due("refused", x.instance(3), -1);
            Checks.due("object " + object, x.instance(object % 3), object);
        }
    }

    private static void texts() {
        long[] numbers = {0, 0x41, 0x4100000000000000L, 0x4100420000430001L, 0x7F7F7F7F7F7F7F7FL, 0x0102030405060708L,
            0x0041420043440045L};
        String[] due = {"0000", "0001 41", "0001 41", "0004 41424301", "0008 7F7F7F7F7F7F7F7F", "0008 0102030405060708",
            "0005 4142434445"};
        GraphWriter x = new GraphWriter();
        for (int i = 0; i < numbers.length; i++) {
            Checks.due("text", x.text(numbers[i]), i);
            Checks.due("its sort", x.object(i, 0), 1);
            Checks.dueWritten("text of " + Long.toHexString(numbers[i]), x, i, false, "74" + due[i]);
        }
    }

    private static void textsAbove127() {
        GraphWriter x = new GraphWriter();
        for (int shift = 0; shift < 64; shift += 8) {
            for (int sign : new int[] {128, 129, 192, 255}) {
                Checks.due("sign " + sign + " at " + shift, x.text((long) sign << shift), -1);
                Checks.due("and others", x.text((long) sign << shift | 0x4141414141414141L & ~(0xFFL << shift)), -1);
            }
        }
        Checks.due("all above", x.text(-1), -1);
        Checks.due("objects", x.count(3), 0);
        for (int shift = 0; shift < 64; shift += 8) {
            Checks.due("sign 127 at " + shift, x.text(127L << shift), shift / 8);
        }
    }

    private static void textAnswers() {
        GraphWriter x = new GraphWriter();
        for (int object = 0; object < 12; object++) {
            Checks.due("refused", x.text(0x80), -1);
            Checks.due("object " + object, x.text(0x41), object);
        }
    }

    private static void intsLengths() {
        GraphWriter x = new GraphWriter();
        for (int length : new int[] {LOWEST, -1, 7, 8, HIGHEST}) {
            Checks.due("length " + length, x.array(false, length), -1);
        }
        Checks.due("objects", x.count(3), 0);
        for (int length = 0; length <= 6; length++) {
            Checks.due("length " + length, x.array(false, length), length);
            Checks.due("its sort", x.object(length, 0), 2);
            Checks.due("its places", x.object(length, 2), length);
        }
    }

    private static void refsLengths() {
        GraphWriter x = new GraphWriter();
        for (int length : new int[] {LOWEST, -1, 5, 6, HIGHEST}) {
            Checks.due("length " + length, x.array(true, length), -1);
        }
        Checks.due("objects", x.count(3), 0);
        for (int length = 0; length <= 4; length++) {
            Checks.due("length " + length, x.array(true, length), length);
            Checks.due("its sort", x.object(length, 0), 3);
            Checks.due("its places", x.object(length, 2), length);
        }
    }

    private static void arrayAnswers() {
        GraphWriter x = new GraphWriter();
        for (int object = 0; object < 12; object++) {
            Checks.due("refused", x.array(object % 2 == 0, 7), -1);
            Checks.due("object " + object, x.array(object % 2 == 0, 3), object);
        }
    }

    private static void constantClasses() {
        for (int kind = 0; kind < 5; kind++) {
            GraphWriter x = withClasses();
            Checks.due("constant of kind " + kind, x.constant(kind, 0), kind == 3 ? 0 : -1);
            Checks.due("its sort", x.object(0, 0), kind == 3 ? 4 : -1);
            Checks.due("its class", x.object(0, 1), kind == 3 ? 3 : -1);
        }
        GraphWriter y = withClasses();
        for (int number : new int[] {LOWEST, -1, 5, 6, HIGHEST}) {
            Checks.due("constant of class " + number, y.constant(number, 0), -1);
        }
        Checks.due("objects", y.count(3), 0);
    }

    private static void constantNames() {
        for (int name : new int[] {LOWEST, -1, 26, HIGHEST}) {
            GraphWriter x = withClasses();
            Checks.due("name " + name, x.constant(3, name), -1);
            Checks.due("objects", x.count(3), 0);
        }
        for (int name = 0; name <= 25; name++) {
            GraphWriter x = withClasses();
            Checks.due("name " + name, x.constant(3, name), 0);
            x.write(0, false);
            Checks.dueEnd("its sign", x, String.format("74 0001 %02X", 'a' + name));
        }
    }

    private static void constantAnswers() {
        GraphWriter x = withClasses();
        for (int object = 0; object < 12; object++) {
            Checks.due("refused", x.constant(3, 26), -1);
            Checks.due("object " + object + ", two of each name", x.constant(3, object / 2), object);
        }
    }
}
