/** Promises 1, 2 and 3: a new object, define, field. */
public final class ClassesTest {
    public static void main(String[] args) {
        newObject();
        defineNumbers();
        defineSuperclasses();
        fieldNumbers();
        fieldLimits();
        fieldAfterAnObject();
        Checks.end();
    }

    private static void newObject() {
        GraphWriter x = new GraphWriter();
        Checks.due("new stream", Checks.hex(x, 0), "ACED0005");
        Checks.due("new count(0)", x.count(0), 4);
        for (int what = 1; what <= 4; what++) {
            Checks.due("new count(" + what + ")", x.count(what), 0);
        }
        Checks.due("new object(0, 0)", x.object(0, 0), -1);
        Checks.due("new instance(0)", x.instance(0), -1);
        Checks.due("new field", x.field(0, 0, 0, false), -1);
        Checks.due("new write(0)", x.write(0, false), -1);
        Checks.due("new byteAt(4)", x.byteAt(4), -1);
        x.write(-1, false);
        Checks.due("another new count(0)", new GraphWriter().count(0), 4);
    }

    private static void defineNumbers() {
        GraphWriter x = new GraphWriter();
        Checks.due("define(-1)", x.define(-1, 1, -1, 0), -1);
        Checks.due("define(6)", x.define(6, 1, -1, 0), -1);
        Checks.due("define kind -1", x.define(0, -1, -1, 0), -1);
        Checks.due("define kind 5", x.define(0, 5, -1, 0), -1);
        Checks.due("define superclass -2", x.define(0, 1, -2, 0), -1);
        Checks.due("define superclass 6", x.define(0, 1, 6, 0), -1);
        Checks.due("define superclass not defined", x.define(0, 1, 1, 0), -1);
        Checks.due("define over itself", x.define(0, 1, 0, 0), -1);
        Checks.due("none defined", x.count(4), 0);
        for (int number = 0; number < 6; number++) {
            Checks.due("define " + number, x.define(number, number % 5, -1, number), 0);
            Checks.due("define twice " + number, x.define(number, 1, -1, 0), -1);
        }
        Checks.due("all defined", x.count(4), 63);
    }

    /** The rows are the kinds above, the columns the kinds below. */
    private static void defineSuperclasses() {
        int[][] due = {{0, 0, 0, -1, -1}, {-1, 0, 0, -1, -1}, {-1, 0, 0, -1, -1}, {-1, -1, -1, -1, -1}, {-1, -1, -1, -1, -1}};
        for (int above = 0; above < 5; above++) {
            for (int kind = 0; kind < 5; kind++) {
                GraphWriter x = new GraphWriter();
                x.define(3, above, -1, 0);
                Checks.due("kind " + kind + " over " + above, x.define(1, kind, 3, 0), due[above][kind]);
                Checks.due("defined " + kind + " over " + above, x.count(4), due[above][kind] == 0 ? 10 : 8);
            }
        }
    }

    private static void fieldNumbers() {
        GraphWriter x = new GraphWriter();
        x.define(0, 1, -1, 0);
        x.define(1, 3, -1, 0);
        x.define(2, 0, -1, 0);
        x.define(3, 4, -1, 0);
        Checks.due("field of -1", x.field(-1, 0, 0, false), -1);
        Checks.due("field of 6", x.field(6, 0, 0, false), -1);
        Checks.due("field of a class not defined", x.field(5, 0, 0, false), -1);
        Checks.due("field of a constant class", x.field(1, 0, 0, false), -1);
        Checks.due("field name -1", x.field(0, -1, 0, false), -1);
        Checks.due("field name 26", x.field(0, 26, 0, false), -1);
        Checks.due("field type -1", x.field(0, 0, -1, false), -1);
        Checks.due("field type 8", x.field(0, 0, 8, false), -1);
        Checks.due("field first", x.field(0, 25, 7, false), 1);
        Checks.due("field of a plain class", x.field(2, 0, 0, true), 1);
        Checks.due("field of a record class", x.field(3, 0, 6, true), 1);
    }

    private static void fieldLimits() {
        GraphWriter x = new GraphWriter();
        x.define(0, 1, -1, 0);
        x.define(1, 1, 0, 0);
        Checks.due("field 1", x.field(0, 0, 0, false), 1);
        Checks.due("field of that name", x.field(0, 0, 7, true), -1);
        Checks.due("field 2", x.field(0, 1, 0, true), 2);
        Checks.due("field of a transient one's name", x.field(0, 1, 0, false), -1);
        Checks.due("field of that name below", x.field(1, 0, 0, false), 1);
        Checks.due("field 3", x.field(0, 2, 0, false), 3);
        Checks.due("field 4", x.field(0, 3, 0, false), 4);
        Checks.due("field 5", x.field(0, 4, 0, false), -1);
        x.instance(1);
        Checks.due("slots", x.object(0, 2), 5);
    }

    private static void fieldAfterAnObject() {
        GraphWriter x = new GraphWriter();
        x.define(0, 0, -1, 0);
        x.define(1, 1, 0, 0);
        x.define(2, 1, 1, 0);
        x.define(3, 1, 1, 0);
        x.instance(1);
        Checks.due("field of the class itself", x.field(1, 0, 0, false), -1);
        Checks.due("field of the class above", x.field(0, 0, 0, false), -1);
        Checks.due("field of the class below", x.field(2, 0, 0, false), 1);
        x.instance(3);
        Checks.due("field beside", x.field(2, 1, 0, false), 2);
        x.write(0, false);
        x.reset();
        Checks.due("field after a reset", x.field(1, 0, 0, false), -1);
    }
}
