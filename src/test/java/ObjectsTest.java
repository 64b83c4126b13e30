/** Promises 4 to 7, 16 and 17: instance, text, array, constant, and what count and object tell of them. */
public final class ObjectsTest {
    public static void main(String[] args) {
        instances();
        texts();
        arrays();
        constants();
        fullAfterTests();
        looks();
        Checks.end();
    }

    private static void instances() {
        GraphWriter x = new GraphWriter();
        for (int kind = 0; kind < 5; kind++) {
            x.define(kind, kind, -1, 0);
        }
        Checks.due("instance(-1)", x.instance(-1), -1);
        Checks.due("instance(6)", x.instance(6), -1);
        Checks.due("instance of a class not defined", x.instance(5), -1);
        Checks.due("instance of a constant class", x.instance(3), -1);
        Checks.due("plain instance", x.instance(0), 0);
        Checks.due("serial instance", x.instance(1), 1);
        Checks.due("custom instance", x.instance(2), 2);
        Checks.due("record instance", x.instance(4), 3);
        Checks.due("objects", x.count(3), 4);
        Checks.due("class", x.object(3, 1), 4);
    }

    private static void texts() {
        GraphWriter x = new GraphWriter();
        Checks.due("a sign of 128", x.text(0x80), -1);
        Checks.due("a highest sign of 128", x.text(0x8000000000000000L), -1);
        Checks.due("a sign of 255", x.text(0x41FF41), -1);
        Checks.due("no text made", x.count(3), 0);
        Checks.due("empty text", x.text(0), 0);
        Checks.due("text with gaps", x.text(0x4100420000430001L), 1);
        Checks.due("text of 127s", x.text(0x7F7F7F7F7F7F7F7FL), 2);
        Checks.due("signs 0", x.object(0, 2), 0);
        Checks.due("signs 1", x.object(1, 2), 4);
        Checks.due("signs 2", x.object(2, 2), 8);
        x.write(0, false);
        x.write(1, false);
        x.write(2, false);
        Checks.dueStream("texts", x, "74 0000 74 0004 41424301 74 0008 7F7F7F7F7F7F7F7F");
    }

    private static void arrays() {
        GraphWriter x = new GraphWriter();
        Checks.due("ints of -1", x.array(false, -1), -1);
        Checks.due("ints of 7", x.array(false, 7), -1);
        Checks.due("refs of -1", x.array(true, -1), -1);
        Checks.due("refs of 5", x.array(true, 5), -1);
        Checks.due("ints of 0", x.array(false, 0), 0);
        Checks.due("ints of 6", x.array(false, 6), 1);
        Checks.due("refs of 0", x.array(true, 0), 2);
        Checks.due("refs of 4", x.array(true, 4), 3);
        Checks.due("places 1", x.object(1, 2), 6);
        Checks.due("places 3", x.object(3, 2), 4);
        x.write(1, false);
        x.write(3, false);
        Checks.dueStream("first values of arrays", x, "75 72 0002 5B49 4DBA602676EAB2A5 02 0000 78 70 00000006 "
            + "00000000 00000000 00000000 00000000 00000000 00000000 "
            + "75 72 0013 5B4C6A6176612E6C616E672E4F626A6563743B 90CE589F1073296C 02 0000 78 70 00000004 70 70 70 70");
    }

    private static void constants() {
        GraphWriter x = new GraphWriter();
        for (int kind = 0; kind < 5; kind++) {
            x.define(kind, kind, -1, 0);
            Checks.due("constant of kind " + kind, x.constant(kind, 0), kind == 3 ? 0 : -1);
        }
        Checks.due("constant(-1)", x.constant(-1, 0), -1);
        Checks.due("constant(6)", x.constant(6, 0), -1);
        Checks.due("constant of a class not defined", x.constant(5, 0), -1);
        Checks.due("constant name -1", x.constant(3, -1), -1);
        Checks.due("constant name 26", x.constant(3, 26), -1);
        Checks.due("constant name 25", x.constant(3, 25), 1);
        Checks.due("constant of a name that is there", x.constant(3, 25), 2);
        Checks.due("objects", x.count(3), 3);
    }

    private static void fullAfterTests() {
        GraphWriter x = new GraphWriter();
        x.define(0, 1, -1, 0);
        x.define(1, 3, -1, 0);
        for (int object = 0; object < 12; object++) {
            Checks.due("text " + object, x.text(object), object);
        }
        Checks.due("full instance", x.instance(0), -2);
        Checks.due("full text", x.text(65), -2);
        Checks.due("full ints", x.array(false, 6), -2);
        Checks.due("full refs", x.array(true, 4), -2);
        Checks.due("full constant", x.constant(1, 0), -2);
        Checks.due("refused instance", x.instance(1), -1);
        Checks.due("refused instance, not defined", x.instance(2), -1);
        Checks.due("refused text", x.text(-1), -1);
        Checks.due("refused ints", x.array(false, 7), -1);
        Checks.due("refused refs", x.array(true, 5), -1);
        Checks.due("refused constant", x.constant(0, 0), -1);
        Checks.due("refused constant name", x.constant(1, 26), -1);
        Checks.due("objects", x.count(3), 12);
        Checks.due("a full instance fixes no fields", x.field(0, 0, 0, false), 1);
    }

    private static void looks() {
        GraphWriter x = new GraphWriter();
        x.define(0, 0, -1, 0);
        x.field(0, 0, 0, true);
        x.define(2, 1, 0, 0);
        x.field(2, 0, 7, false);
        x.field(2, 1, 6, true);
        x.define(4, 3, -1, 0);
        x.instance(2);
        x.text(65);
        x.array(false, 3);
        x.array(true, 2);
        x.constant(4, 9);
        int[] sizes = {3, 1, 3, 2, 0};
        int[] owners = {2, -1, -1, -1, 4};
        for (int object = 0; object < 5; object++) {
            Checks.due("sort of " + object, x.object(object, 0), object);
            Checks.due("class of " + object, x.object(object, 1), owners[object]);
            Checks.due("size of " + object, x.object(object, 2), sizes[object]);
            Checks.due("what 3 of " + object, x.object(object, 3), -1);
            Checks.due("what -1 of " + object, x.object(object, -1), -1);
        }
        Checks.due("object(-1, 0)", x.object(-1, 0), -1);
        Checks.due("object(5, 0)", x.object(5, 0), -1);
        Checks.due("object(12, 0)", x.object(12, 0), -1);
        Checks.due("count(3)", x.count(3), 5);
        Checks.due("count(4)", x.count(4), 1 + 4 + 16);
        Checks.due("count(5)", x.count(5), -1);
        Checks.due("count(-1)", x.count(-1), -1);
    }
}
