import java.util.function.ToIntFunction;

/** The sentences of "Terms" on what every call tests, in which order, and on what a refused call changes. */
public final class RefusedTest {
    private static final int LOWEST = Integer.MIN_VALUE;
    private static final int HIGHEST = Integer.MAX_VALUE;
    /** Numbers that are neither an object's nor a class's, in the writer that made() makes. */
    private static final int[] NOT_THERE = {LOWEST, -2, 7, 11, 12, 31, 32, HIGHEST};

    public static void main(String[] args) {
        Checks.section("Terms");
        Checks.sentence("(an object, class or slot that is not there is out of range)", RefusedTest::notThere);
        Checks.sentence("Every call tests its numbers first (an object, class or slot that is not there is out of "
            + "range), then what its comment says, in that order.", RefusedTest::order);
        Checks.sentence("Numbers out of range and all that is said to be refused answer REFUSED and change nothing. "
            + "[define, field]", RefusedTest::classes);
        Checks.sentence("Numbers out of range and all that is said to be refused answer REFUSED and change nothing. "
            + "[instance, text, array, constant]", RefusedTest::objects);
        Checks.sentence("Numbers out of range and all that is said to be refused answer REFUSED and change nothing. "
            + "[set, replace, extra]", RefusedTest::values);
        Checks.sentence("Numbers out of range and all that is said to be refused answer REFUSED and change nothing. "
            + "[data, write]", RefusedTest::output);
        Checks.sentence("Numbers out of range and all that is said to be refused answer REFUSED and change nothing. "
            + "[byteAt, handle, count, object]", RefusedTest::looks);
        Checks.end();
    }

    /** Class 5 is not defined; seven objects of all sorts, some with handles; data wait. */
    private static GraphWriter made() {
        GraphWriter x = new GraphWriter();
        x.define(0, 0, -1, 1);
        x.field(0, 2, 0, false);
        x.define(1, 2, 0, 2);
        x.field(1, 3, 7, false);
        x.field(1, 4, 6, false);
        x.define(2, 4, -1, 3);
        for (int name = 4; name < 8; name++) {
            x.field(2, name, name == 5 ? 7 : 2, name == 6);
        }
        x.define(3, 3, -1, 4);
        x.define(4, 1, 1, 5);
        x.field(4, 1, 2, false);
        x.instance(0);
        x.instance(1);
        x.text(0x4142);
        x.array(false, 2);
        x.array(true, 2);
        x.constant(3, 6);
        x.instance(1);
        x.set(1, 0, 0x77);
        x.set(1, 1, 4);
        x.set(1, 2, 3);
        x.set(3, 1, 0x55);
        x.set(4, 0, 2);
        x.extra(1, 0x66);
        x.replace(6, 5);
        x.write(1, false);
        x.data(0x313233, 3);
        return x;
    }

    private static void refused(String call, ToIntFunction<GraphWriter> run) {
        Checks.dueUnchanged(call, RefusedTest::made, run, -1);
    }

    private static void notThere() {
        GraphWriter x = made();
        for (int number : new int[] {LOWEST, -1, 5, 6, HIGHEST}) {
            Checks.due("field of class " + number, x.field(number, 0, 0, false), -1);
            Checks.due("instance of class " + number, x.instance(number), -1);
            Checks.due("constant of class " + number, x.constant(number, 0), -1);
            if (number != -1) {
                Checks.due("define over class " + number, x.define(5, 1, number, 0), -1);
            }
        }
        for (int object : NOT_THERE) {
            Checks.due("set of object " + object, x.set(object, 0, 0), -1);
            Checks.due("set to object " + object, x.set(4, 0, object), -1);
            Checks.due("replace of object " + object, x.replace(object, 0), -1);
            Checks.due("replace by object " + object, x.replace(0, object), -1);
            Checks.due("extra of object " + object, x.extra(object, 0), -1);
            Checks.due("write of object " + object, x.write(object, false), -1);
            Checks.due("handle of object " + object, x.handle(object), -1);
            Checks.due("object " + object, x.object(object, 0), -1);
        }
        int[] slots = {1, 3, 0, 2, 2, 0, 3};
        for (int object = 0; object < 7; object++) {
            Checks.due("slot -1 of object " + object, x.set(object, -1, 0), -1);
            Checks.due("one slot too many of object " + object, x.set(object, slots[object], -1), -1);
            Checks.due("slot far away of object " + object, x.set(object, HIGHEST, 0), -1);
        }
        Checks.due("the object when it is there", x.text(0), 7);
        Checks.due("set to it", x.set(4, 0, 7), 0);
        Checks.due("the class when it is there", x.define(5, 1, -1, 0), 0);
        Checks.due("instance of it", x.instance(5), 8);
    }

    /** Where a call would be FULL too, it is REFUSED, for that is tested first. */
    private static void order() {
        GraphWriter x = new GraphWriter();
        x.define(0, 1, -1, 0);
        x.define(1, 3, -1, 0);
        for (int object = 0; object < 12; object++) {
            x.text(object);
        }
        Checks.due("instance of a class not there", x.instance(2), -1);
        Checks.due("instance of a constant class", x.instance(1), -1);
        Checks.due("instance", x.instance(0), -2);
        Checks.due("a text with a sign above 127", x.text(0x80), -1);
        Checks.due("a text", x.text(0x7F), -2);
        Checks.due("too many ints", x.array(false, 7), -1);
        Checks.due("ints", x.array(false, 6), -2);
        Checks.due("too many refs", x.array(true, 5), -1);
        Checks.due("refs", x.array(true, 4), -2);
        Checks.due("constant of a class not there", x.constant(2, 0), -1);
        Checks.due("constant of another class", x.constant(0, 0), -1);
        Checks.due("constant of a name out of range", x.constant(1, 26), -1);
        Checks.due("constant", x.constant(1, 25), -2);
        Checks.fillTo(x, 1400);
        Checks.due("data of none", x.data(0, 0), -1);
        Checks.due("data of too many", x.data(0, 9), -1);
        Checks.due("data", x.data(0, 8), -2);
        Checks.due("write of an object not there", x.write(12, false), -1);
        Checks.due("write below NULL", x.write(-2, false), -1);
        Checks.due("write", x.write(11, false), -2);
    }

    private static void classes() {
        refused("define class -1", x -> x.define(-1, 1, -1, 9));
        refused("define class 6", x -> x.define(6, 1, -1, 9));
        refused("define lowest class", x -> x.define(LOWEST, 1, -1, 9));
        refused("define highest class", x -> x.define(HIGHEST, 1, -1, 9));
        for (int number = 0; number < 5; number++) {
            int there = number;
            refused("define " + number + " again", x -> x.define(there, 1, -1, 9));
        }
        for (int kind : new int[] {LOWEST, -1, 5, HIGHEST}) {
            refused("define kind " + kind, x -> x.define(5, kind, -1, 9));
        }
        for (int above : new int[] {LOWEST, -2, 2, 3, 5, 6, HIGHEST}) {
            refused("define over " + above, x -> x.define(5, 1, above, 9));
        }
        refused("define PLAIN over CUSTOM", x -> x.define(5, 0, 1, 9));
        refused("define PLAIN over SERIAL", x -> x.define(5, 0, 4, 9));
        refused("define CONSTANT over PLAIN", x -> x.define(5, 3, 0, 9));
        refused("define RECORD over SERIAL", x -> x.define(5, 4, 4, 9));
        for (int number : new int[] {LOWEST, -1, 3, 5, 6, HIGHEST}) {
            refused("field of class " + number, x -> x.field(number, 0, 0, false));
        }
        for (int bad : new int[] {LOWEST, -1, 26, HIGHEST}) {
            refused("field name " + bad, x -> x.field(4, bad, 0, false));
            refused("field type " + bad, x -> x.field(4, 0, bad, false));
        }
        refused("field type 8", x -> x.field(4, 0, 8, false));
        refused("field of a class with an object", x -> x.field(1, 0, 0, false));
        refused("field of a class above one with an object", x -> x.field(0, 0, 0, false));
        refused("a fifth field", x -> x.field(2, 0, 0, false));
        refused("a field of a name that is there", x -> x.field(4, 1, 0, true));
    }

    private static void objects() {
        for (int number : new int[] {LOWEST, -1, 3, 5, 6, HIGHEST}) {
            refused("instance of class " + number, x -> x.instance(number));
        }
        for (int shift = 0; shift < 64; shift += 8) {
            long bad = 0x80L << shift;
            refused("text with the sign 128 at " + shift, x -> x.text(bad | 0x41));
        }
        for (int length : new int[] {LOWEST, -1, 7, HIGHEST}) {
            refused("ints of " + length, x -> x.array(false, length));
        }
        for (int length : new int[] {LOWEST, -1, 5, 6, HIGHEST}) {
            refused("refs of " + length, x -> x.array(true, length));
        }
        for (int number : new int[] {LOWEST, -1, 0, 1, 2, 4, 5, 6, HIGHEST}) {
            refused("constant of class " + number, x -> x.constant(number, 0));
        }
        for (int name : new int[] {LOWEST, -1, 26, HIGHEST}) {
            refused("constant name " + name, x -> x.constant(3, name));
        }
    }

    private static void values() {
        for (int object : NOT_THERE) {
            refused("set of object " + object, x -> x.set(object, 0, 1));
            refused("replace of object " + object, x -> x.replace(object, 1));
            refused("replace by object " + object, x -> x.replace(1, object));
            refused("replace of a replaced one by object " + object, x -> x.replace(6, object));
            refused("extra of object " + object, x -> x.extra(object, 1));
        }
        int[] slots = {1, 3, 0, 2, 2, 0, 3};
        for (int object = 0; object < 7; object++) {
            int one = object;
            for (int slot : new int[] {LOWEST, -1, slots[object], slots[object] + 1, HIGHEST}) {
                refused("slot " + slot + " of object " + object, x -> x.set(one, slot, 1));
            }
            refused("object " + object + " by itself", x -> x.replace(one, one));
        }
        for (long value : new long[] {-2, 7, 12, 1L << 32, (1L << 32) + 3, 0xFFFFFFFFL, Long.MIN_VALUE, Long.MAX_VALUE}) {
            refused("a slot of type 7 to " + value, x -> x.set(1, 1, value));
            refused("a slot of type 6 to " + value, x -> x.set(1, 2, value));
            refused("a place of refs to " + value, x -> x.set(4, 0, value));
        }
        for (int other : new int[] {0, 1, 2, 4, 5, 6}) {
            refused("a slot of type 6 to object " + other, x -> x.set(1, 2, other));
        }
        for (int object = 2; object < 6; object++) {
            int other = object;
            refused("replace of object " + object, x -> x.replace(other, 0));
            refused("replace of object " + object + " by none", x -> x.replace(other, -1));
            refused("extra of object " + object, x -> x.extra(other, 1));
        }
    }

    private static void output() {
        for (int count : new int[] {LOWEST, -1, 0, 9, HIGHEST}) {
            refused("data of " + count, x -> x.data(0x4142434445464748L, count));
        }
        for (int object : NOT_THERE) {
            refused("write of object " + object, x -> x.write(object, false));
            refused("write of object " + object + " unshared", x -> x.write(object, true));
        }
    }

    private static void looks() {
        int length = made().count(0);
        for (int place : new int[] {LOWEST, -1, length, length + 1, 1399, 1400, HIGHEST}) {
            refused("byteAt(" + place + ")", x -> x.byteAt(place));
        }
        for (int object : NOT_THERE) {
            refused("handle(" + object + ")", x -> x.handle(object));
            refused("object(" + object + ", 0)", x -> x.object(object, 0));
        }
        refused("handle(-1)", x -> x.handle(-1));
        refused("object(-1, 0)", x -> x.object(-1, 0));
        refused("a handle that was not given", x -> x.handle(0));
        for (int object = 2; object < 5; object++) {
            int one = object;
            refused("class of object " + object, x -> x.object(one, 1));
        }
        for (int what : new int[] {LOWEST, -1, 5, HIGHEST}) {
            refused("count(" + what + ")", x -> x.count(what));
        }
        for (int what : new int[] {LOWEST, -1, 3, 4, HIGHEST}) {
            refused("object(1, " + what + ")", x -> x.object(1, what));
        }
    }
}
