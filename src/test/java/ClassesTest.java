/** The sentences of promises 1, 2 and 3: a new object, define, field. */
public final class ClassesTest {
    private static final int LOWEST = Integer.MIN_VALUE;
    private static final int HIGHEST = Integer.MAX_VALUE;

    public static void main(String[] args) {
        Checks.section("Promise 1: A new object");
        Checks.sentence("Nothing is defined or made;", ClassesTest::nothing);
        Checks.sentence("the STREAM has its four bytes.", ClassesTest::fourBytes);
        Checks.section("Promise 2: define");
        Checks.sentence("Class 0 .. 5, not defined;", ClassesTest::classNumbers);
        Checks.sentence("KIND 0 .. 4;", ClassesTest::kinds);
        Checks.sentence("superclass -1 (none) or a defined class,", ClassesTest::superclassNumbers);
        Checks.sentence("which must be PLAIN, SERIAL or CUSTOM, and the KIND then too;", ClassesTest::superclassKinds);
        Checks.sentence("PLAIN only over PLAIN;", ClassesTest::plainOverPlain);
        Checks.sentence("a CONSTANT or RECORD class has none.", ClassesTest::constantAndRecord);
        Checks.sentence("Else REFUSED. DONE.", ClassesTest::refusedOrDone);
        Checks.section("Promise 3: field");
        Checks.sentence("A defined class that is not CONSTANT;", ClassesTest::fieldClass);
        Checks.sentence("name 0 .. 25;", ClassesTest::fieldName);
        Checks.sentence("type 0 .. 7.", ClassesTest::fieldType);
        Checks.sentence("An object of it, or of a class that has it above, was made;", ClassesTest::fieldAfterAnObject);
        Checks.sentence("or it has four FIELDS,", ClassesTest::fieldLimit);
        Checks.sentence("or one of that name: REFUSED.", ClassesTest::fieldTwice);
        Checks.sentence("Answers how many FIELDS it has.", ClassesTest::fieldAnswers);
        Checks.end();
    }

    private static void nothing() {
        GraphWriter x = new GraphWriter();
        for (int what = 1; what <= 4; what++) {
            Checks.due("count(" + what + ")", x.count(what), 0);
        }
        for (int number = 0; number < 12; number++) {
            Checks.due("object(" + number + ", 0)", x.object(number, 0), -1);
            Checks.due("handle(" + number + ")", x.handle(number), -1);
            Checks.due("write(" + number + ")", x.write(number, false), -1);
            Checks.due("instance(" + number + ")", x.instance(number), -1);
            Checks.due("constant(" + number + ", 0)", x.constant(number, 0), -1);
            Checks.due("field(" + number + ")", x.field(number, 0, 0, false), -1);
        }
        x.define(0, 1, -1, 0);
        x.instance(0);
        GraphWriter y = new GraphWriter();
        Checks.due("objects of another one", y.count(3), 0);
        Checks.due("classes of another one", y.count(4), 0);
    }

    private static void fourBytes() {
        GraphWriter x = new GraphWriter();
        Checks.due("length", x.count(0), 4);
        int[] bytes = {0xAC, 0xED, 0x00, 0x05};
        for (int place = 0; place < 4; place++) {
            Checks.due("byteAt(" + place + ")", x.byteAt(place), bytes[place]);
        }
        Checks.due("byteAt(4)", x.byteAt(4), -1);
        x.write(-1, false);
        Checks.due("length of another one", new GraphWriter().count(0), 4);
    }

    private static void classNumbers() {
        GraphWriter x = new GraphWriter();
        for (int number : new int[] {LOWEST, -1, 6, 31, 32, HIGHEST}) {
            Checks.due("class " + number, x.define(number, 1, -1, 0), -1);
        }
        Checks.due("none is defined", x.count(4), 0);
        for (int number = 5; number >= 0; number--) {
            Checks.due("class " + number, x.define(number, 1, -1, 0), 0);
            Checks.due("class " + number + " again", x.define(number, 1, -1, 0), -1);
            Checks.due("class " + number + " again, otherwise", x.define(number, 3, -1, 7), -1);
        }
        Checks.due("all are defined", x.count(4), 63);
    }

    private static void kinds() {
        for (int kind : new int[] {LOWEST, -1, 5, HIGHEST}) {
            GraphWriter x = new GraphWriter();
            Checks.due("kind " + kind, x.define(0, kind, -1, 0), -1);
            Checks.due("classes", x.count(4), 0);
        }
        for (int kind = 0; kind <= 4; kind++) {
            GraphWriter x = new GraphWriter();
            Checks.due("kind " + kind, x.define(0, kind, -1, 0), 0);
            Checks.due("classes", x.count(4), 1);
        }
    }

    private static void superclassNumbers() {
        GraphWriter x = new GraphWriter();
        for (int above : new int[] {LOWEST, -2, 0, 1, 5, 6, HIGHEST}) {
            Checks.due("over " + above, x.define(1, 1, above, 0), -1);
        }
        Checks.due("over none", x.define(5, 1, -1, 0), 0);
        Checks.due("over the last class", x.define(1, 1, 5, 0), 0);
        Checks.due("over itself", x.define(2, 1, 2, 0), -1);
        Checks.due("over one not defined", x.define(2, 1, 3, 0), -1);
        Checks.due("over one with another above", x.define(0, 1, 1, 0), 0);
        Checks.due("over the first class", x.define(2, 1, 0, 0), 0);
        Checks.due("classes", x.count(4), 32 + 2 + 1 + 4);
    }

    /** The kinds above are the rows. */
    private static void superclassKinds() {
        int[][] due = {{0, 0, 0, -1, -1}, {-1, 0, 0, -1, -1}, {-1, 0, 0, -1, -1}, {-1, -1, -1, -1, -1}, {-1, -1, -1, -1, -1}};
        for (int above = 0; above < 5; above++) {
            for (int kind = 0; kind < 5; kind++) {
                GraphWriter x = new GraphWriter();
                x.define(3, above, -1, 0);
                Checks.due("kind " + kind + " over " + above, x.define(1, kind, 3, 0), due[above][kind]);
            }
        }
    }

    private static void plainOverPlain() {
        GraphWriter x = new GraphWriter();
        x.define(0, 0, -1, 0);
        Checks.due("PLAIN over PLAIN", x.define(1, 0, 0, 0), 0);
        x.define(2, 1, 1, 0);
        Checks.due("PLAIN over SERIAL", x.define(3, 0, 2, 0), -1);
        x.define(3, 2, 1, 0);
        Checks.due("PLAIN over CUSTOM", x.define(4, 0, 3, 0), -1);
        Checks.due("PLAIN over none", x.define(4, 0, -1, 0), 0);
    }

    private static void constantAndRecord() {
        for (int kind = 3; kind <= 4; kind++) {
            for (int above = 0; above < 5; above++) {
                GraphWriter x = new GraphWriter();
                x.define(0, above, -1, 0);
                Checks.due("kind " + kind + " over " + above, x.define(1, kind, 0, 0), -1);
                Checks.due("kind " + kind + " over none", x.define(1, kind, -1, 0), 0);
            }
        }
    }

    private static void refusedOrDone() {
        GraphWriter x = new GraphWriter();
        Checks.due("more than one is wrong", x.define(6, 5, 6, 0), -1);
        Checks.due("a refused class", x.define(2, 1, 4, 8), -1);
        Checks.due("is not defined", x.count(4), 0);
        Checks.due("it still can be", x.define(2, 2, -1, 9), 0);
        Checks.due("a second time", x.define(2, 1, -1, 10), -1);
        x.instance(2);
        Checks.dueWritten("it stays as it was", x, 0, false,
            "73 72 0001 43 0000000000000009 03 0000 78 70 77 04 00000002 78");
    }

    private static void fieldClass() {
        for (int number : new int[] {LOWEST, -1, 0, 5, 6, HIGHEST}) {
            Checks.due("field of class " + number, new GraphWriter().field(number, 0, 0, false), -1);
        }
        int[] due = {1, 1, 1, -1, 1};
        for (int kind = 0; kind < 5; kind++) {
            GraphWriter x = new GraphWriter();
            x.define(5, kind, -1, 0);
            Checks.due("field of kind " + kind, x.field(5, 0, 0, false), due[kind]);
            Checks.due("transient field of kind " + kind, x.field(5, 1, 0, true), due[kind] < 0 ? -1 : 2);
        }
    }

    private static void fieldName() {
        for (int name : new int[] {LOWEST, -1, 26, HIGHEST}) {
            GraphWriter x = withClass();
            Checks.due("name " + name, x.field(0, name, 0, false), -1);
            Checks.due("no field is there", x.field(0, 0, 0, false), 1);
        }
        for (int name = 0; name <= 25; name++) {
            Checks.due("name " + name, withClass().field(0, name, 0, false), 1);
        }
    }

    private static GraphWriter withClass() {
        GraphWriter x = new GraphWriter();
        x.define(0, 1, -1, 0);
        return x;
    }

    private static void fieldType() {
        for (int type : new int[] {LOWEST, -1, 8, HIGHEST}) {
            GraphWriter x = withClass();
            Checks.due("type " + type, x.field(0, 0, type, false), -1);
            Checks.due("no field is there", x.field(0, 0, 0, false), 1);
        }
        for (int type = 0; type <= 7; type++) {
            Checks.due("type " + type, withClass().field(0, 0, type, false), 1);
        }
    }

    private static void fieldAfterAnObject() {
        GraphWriter x = new GraphWriter();
        x.define(0, 0, -1, 0);
        x.define(1, 1, 0, 0);
        x.define(2, 1, 1, 0);
        x.define(3, 1, 1, 0);
        x.define(4, 4, -1, 0);
        Checks.due("field before", x.field(1, 1, 0, false), 1);
        x.text(0x41);
        x.array(true, 1);
        Checks.due("field behind other objects", x.field(1, 2, 0, false), 2);
        x.instance(1);
        Checks.due("field of the class itself", x.field(1, 0, 0, false), -1);
        Checks.due("field of the class above", x.field(0, 0, 0, false), -1);
        Checks.due("field of the class below", x.field(2, 0, 0, false), 1);
        Checks.due("field of a class apart", x.field(4, 0, 0, false), 1);
        x.instance(3);
        Checks.due("field of a class beside", x.field(2, 1, 0, false), 2);
        x.write(2, false);
        x.reset();
        Checks.due("field after a reset", x.field(1, 0, 0, false), -1);
        x.instance(2);
        Checks.due("field of the lowest class", x.field(2, 2, 0, false), -1);
        topOfSix();
    }

    private static void topOfSix() {
        GraphWriter x = new GraphWriter();
        for (int number = 0; number < 6; number++) {
            x.define(number, 0, number - 1, 0);
        }
        x.instance(5);
        for (int number = 0; number < 6; number++) {
            Checks.due("field of class " + number + " of six", x.field(number, 0, 0, false), -1);
        }
    }

    private static void fieldLimit() {
        GraphWriter x = new GraphWriter();
        x.define(0, 1, -1, 0);
        x.define(1, 1, 0, 0);
        for (int name = 0; name < 4; name++) {
            Checks.due("field " + name, x.field(0, name, 0, name > 1), name + 1);
        }
        Checks.due("a fifth", x.field(0, 4, 0, false), -1);
        Checks.due("a fifth, transient", x.field(0, 4, 0, true), -1);
        Checks.due("in the class below", x.field(1, 4, 0, true), 1);
        x.instance(1);
        Checks.due("slots", x.object(0, 2), 5);
    }

    private static void fieldTwice() {
        GraphWriter x = new GraphWriter();
        x.define(0, 1, -1, 0);
        x.define(1, 1, 0, 0);
        Checks.due("a", x.field(0, 0, 0, false), 1);
        Checks.due("b, transient", x.field(0, 1, 0, true), 2);
        Checks.due("c", x.field(0, 2, 7, false), 3);
        for (int name = 0; name < 3; name++) {
            Checks.due("again " + name, x.field(0, name, 0, false), -1);
            Checks.due("again " + name + ", otherwise", x.field(0, name, 6, true), -1);
            Checks.due("below " + name, x.field(1, name, 0, false), name + 1);
        }
        Checks.due("d", x.field(0, 3, 0, false), 4);
    }

    private static void fieldAnswers() {
        GraphWriter x = new GraphWriter();
        x.define(0, 1, -1, 0);
        x.define(1, 1, 0, 0);
        Checks.due("first", x.field(0, 9, 0, false), 1);
        Checks.due("first of the other", x.field(1, 9, 0, true), 1);
        Checks.due("second, transient", x.field(0, 8, 3, true), 2);
        Checks.due("refused", x.field(0, 8, 3, true), -1);
        Checks.due("third", x.field(0, 7, 6, false), 3);
        Checks.due("second of the other", x.field(1, 8, 7, false), 2);
        Checks.due("fourth", x.field(0, 6, 7, true), 4);
    }
}
