import java.io.ByteArrayOutputStream;
import java.io.IOException;
import java.io.ObjectOutputStream;
import java.io.Serializable;

/**
 * Promise 12 against Java's own ObjectOutputStream, where the document and Java mean the same:
 * shared objects, descriptors, arrays, records, constants, custom data, waiting data and resets.
 */
public final class JavaStreamTest {
    private static final int[] INTS = {7, -1};

    public static void main(String[] args) throws IOException {
        GraphWriter x = new GraphWriter();
        defineClasses(x);
        makeObjects(x);
        x.data(0x0102, 2);
        x.data(9, 1);
        x.write(4, false);
        x.write(0, false);
        x.data(-1, 8);
        x.reset();
        x.write(3, false);

        ByteArrayOutputStream bytes = new ByteArrayOutputStream();
        ObjectOutputStream out = new ObjectOutputStream(bytes);
        Object[] things = javaObjects();
        out.writeShort(0x0102);
        out.writeByte(9);
        out.writeObject(things[4]);
        out.writeObject(things[0]);
        out.writeLong(-1);
        out.reset();
        out.writeObject(things[3]);
        out.flush();

        byte[] java = bytes.toByteArray();
        Checks.due("length", x.count(0), java.length);
        StringBuilder hex = new StringBuilder();
        for (int place = 0; place < java.length; place++) {
            hex.append(String.format("%02X", java[place]));
        }
        Checks.due("stream", Checks.hex(x, 0), hex.toString());
        Checks.end();
    }

    private static void defineClasses(GraphWriter x) {
        x.define(0, 2, -1, 5);
        x.field(0, 3, 2, false);
        x.field(0, 1, 7, false);
        x.field(0, 2, 5, true);
        x.field(0, 0, 3, false);
        x.define(1, 2, 0, -6);
        x.field(1, 25, 6, false);
        x.field(1, 24, 1, false);
        x.field(1, 23, 7, false);
        x.field(1, 22, 4, false);
        x.define(2, 4, -1, 0);
        x.field(2, 1, 0, false);
        x.field(2, 0, 6, false);
        x.define(3, 0, -1, 0);
        x.field(3, 0, 2, false);
        x.define(4, 1, 3, 0x123456789L);
        x.field(4, 0, 5, false);
        x.define(5, 3, -1, 99);
    }

    /** 0 a B, 1 INTS, 2 a C, 3 an E, 4 REFS, 5 a constant, 6 a text. */
    private static void makeObjects(GraphWriter x) {
        x.instance(1);
        x.array(false, 2);
        x.instance(2);
        x.instance(4);
        x.array(true, 4);
        x.constant(5, 7);
        x.text(0x48656C6C6FL);
        long[] ofB = {-2, 6, 1, 0x1122334455667788L, 1, 66, 0, -300};
        for (int slot = 0; slot < ofB.length; slot++) {
            x.set(0, slot, ofB[slot]);
        }
        x.extra(0, 1000);
        x.set(1, 0, INTS[0]);
        x.set(1, 1, INTS[1]);
        x.set(2, 0, -5);
        x.set(2, 1, 1);
        x.set(3, 0, 12);
        x.set(3, 1, 3);
        x.set(4, 0, 5);
        x.set(4, 1, 2);
        x.set(4, 2, 0);
    }

    private static Object[] javaObjects() {
        B b = new B();
        b.d = -2;
        b.b = "Hello";
        b.c = true;
        b.a = 0x1122334455667788L;
        b.z = INTS;
        b.y = 'B';
        b.x = b;
        b.w = -300;
        b.extra = 1000;
        E e = new E();
        e.a = true;
        ((D) e).a = 12;
        Object[] refs = {F.h, new C((byte) -5, INTS), b, null};
        return new Object[] {b, INTS, refs[1], e, refs};
    }
}

class A implements Serializable {
    private static final long serialVersionUID = 5;
    int d;
    @SuppressWarnings("serial")
    Object b;
    transient boolean c;
    long a;
    transient int extra;

    private void writeObject(ObjectOutputStream out) throws IOException {
        out.defaultWriteObject();
        out.writeInt(extra);
    }
}

class B extends A {
    private static final long serialVersionUID = -6;
    int[] z;
    char y;
    @SuppressWarnings("serial")
    Object x;
    short w;

    private void writeObject(ObjectOutputStream out) throws IOException {
        out.defaultWriteObject();
        out.writeInt(extra + 1);
    }
}

record C(byte b, int[] a) implements Serializable {
}

class D {
    int a;
}

class E extends D implements Serializable {
    private static final long serialVersionUID = 0x123456789L;
    boolean a;
}

enum F {
    h
}
