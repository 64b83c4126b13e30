import java.util.Arrays;

/** Writes graphs of objects as a serial stream; the promises stand in DOC.md. */
public final class GraphWriter {
    public static final int DONE = 0;
    public static final int REFUSED = -1;
    public static final int FULL = -2;
    public static final int ABORTED = -3;

    private static final long STREAM_HEAD = 0xACED0005L;
    private static final int STREAM_LIMIT = 1400;
    private static final int WAITING_LIMIT = 255;
    private static final int CLASS_LIMIT = 6;
    private static final int FIELD_LIMIT = 4;
    private static final int OBJECT_LIMIT = 12;
    private static final int INTS_LIMIT = 6;
    private static final int REFS_LIMIT = 4;
    private static final int DATA_LIMIT = 8;
    private static final int NAMES = 26;
    private static final int NONE = -1;
    private static final long SIGNS_ABOVE_127 = 0x8080808080808080L;

    private static final int PLAIN = 0;
    private static final int CUSTOM = 2;
    private static final int CONSTANT = 3;
    private static final int RECORD = 4;

    private static final int SORT_INSTANCE = 0;
    private static final int SORT_TEXT = 1;
    private static final int SORT_INTS = 2;
    private static final int SORT_REFS = 3;
    private static final int SORT_CONSTANT = 4;

    private static final int TYPE_INT = 2;
    private static final int TYPE_BOOLEAN = 5;
    private static final int TYPE_INTS = 6;
    private static final int TYPE_OBJECT = 7;
    private static final int[] TYPE_WIDTHS = {1, 2, 4, 8, 2, 1};
    private static final String TYPE_SIGNS = "BCIJSZ[L";
    private static final String CLASS_SIGNS = "ABCDEF";
    private static final String NAME_SIGNS = "abcdefghijklmnopqrstuvwxyz";

    // All that can have a handle has a key: an object's is its number, the others follow.
    private static final int KEY_NAME = OBJECT_LIMIT;
    private static final int KEY_CLASS = KEY_NAME + OBJECT_LIMIT;
    private static final int KEY_INTS = KEY_CLASS + CLASS_LIMIT;
    private static final int KEY_REFS = KEY_INTS + 1;
    private static final int KEY_ENUM = KEY_REFS + 1;
    private static final int KEY_TYPE_INTS = KEY_ENUM + 1;
    private static final int KEY_TYPE_OBJECT = KEY_TYPE_INTS + 1;
    private static final int KEYS = KEY_TYPE_OBJECT + 1;

    private static final int FLAGS_SERIAL = 0x02;
    private static final int FLAGS_CUSTOM = 0x03;
    private static final int FLAGS_CONSTANT = 0x12;
    private static final long ID_INTS = 0x4DBA602676EAB2A5L;
    private static final long ID_REFS = 0x90CE589F1073296CL;

    private static final int MARK_NULL = 0x70;
    private static final int MARK_REFERENCE = 0x71;
    private static final int MARK_DESCRIPTOR = 0x72;
    private static final int MARK_INSTANCE = 0x73;
    private static final int MARK_TEXT = 0x74;
    private static final int MARK_ARRAY = 0x75;
    private static final int MARK_BLOCK = 0x77;
    private static final int MARK_END = 0x78;
    private static final int MARK_RESET = 0x79;
    private static final int MARK_ABORT = 0x7B;
    private static final int MARK_CONSTANT = 0x7E;
    private static final int FIRST_HANDLE = 0x7E0000;

    private final Defined[] classes = new Defined[CLASS_LIMIT];
    private final Thing[] things = new Thing[OBJECT_LIMIT];
    private final Out out = new Out();
    private int made;

    public GraphWriter() {
        out.forgetHandles();
        out.put(STREAM_HEAD, 4);
    }

    public int define(int number, int kind, int superclass, long id) {
        if (number < 0 || number >= CLASS_LIMIT || classes[number] != null) {
            return REFUSED;
        }
        if (kind < PLAIN || kind > RECORD) {
            return REFUSED;
        }
        if (superclass != NONE && !mayStandAbove(superclass, kind)) {
            return REFUSED;
        }
        classes[number] = new Defined(number, kind, id, chainTo(number, superclass));
        return DONE;
    }

    public int field(int number, int name, int type, boolean isTransient) {
        if (!isDefined(number) || name < 0 || name >= NAMES || type < 0 || type > TYPE_OBJECT) {
            return REFUSED;
        }
        Defined owner = classes[number];
        if (owner.kind == CONSTANT || owner.used) {
            return REFUSED;
        }
        if (owner.fields >= FIELD_LIMIT || owner.hasField(name)) {
            return REFUSED;
        }
        owner.addField(name, type, isTransient);
        return owner.fields;
    }

    public int instance(int number) {
        if (!isDefined(number) || classes[number].kind == CONSTANT) {
            return REFUSED;
        }
        if (made >= OBJECT_LIMIT) {
            return FULL;
        }
        int[] chain = classes[number].chain;
        for (int level = 0; level < chain.length; level++) {
            classes[chain[level]].used = true;
        }
        return keep(new Thing(SORT_INSTANCE, number, slotTypes(chain), ""));
    }

    public int text(long signs) {
        if ((signs & SIGNS_ABOVE_127) != 0) {
            return REFUSED;
        }
        if (made >= OBJECT_LIMIT) {
            return FULL;
        }
        return keep(new Thing(SORT_TEXT, NONE, new int[0], signsOf(signs)));
    }

    public int array(boolean refs, int length) {
        if (length < 0 || length > (refs ? REFS_LIMIT : INTS_LIMIT)) {
            return REFUSED;
        }
        if (made >= OBJECT_LIMIT) {
            return FULL;
        }
        int[] types = new int[length];
        Arrays.fill(types, refs ? TYPE_OBJECT : TYPE_INT);
        return keep(new Thing(refs ? SORT_REFS : SORT_INTS, NONE, types, ""));
    }

    public int constant(int number, int name) {
        if (!isDefined(number) || name < 0 || name >= NAMES) {
            return REFUSED;
        }
        if (classes[number].kind != CONSTANT) {
            return REFUSED;
        }
        if (made >= OBJECT_LIMIT) {
            return FULL;
        }
        String sign = NAME_SIGNS.substring(name, name + 1);
        return keep(new Thing(SORT_CONSTANT, number, new int[0], sign));
    }

    public int set(int object, int slot, long value) {
        if (!isMade(object)) {
            return REFUSED;
        }
        Thing thing = things[object];
        if (slot < 0 || slot >= thing.types.length) {
            return REFUSED;
        }
        if (thing.types[slot] >= TYPE_INTS && !mayBeHeld(value, thing.types[slot])) {
            return REFUSED;
        }
        thing.values[slot] = value;
        return DONE;
    }

    public int replace(int object, int other) {
        if (!isInstance(object) || other == object) {
            return REFUSED;
        }
        if (other != NONE && !isMade(other)) {
            return REFUSED;
        }
        things[object].replacement = other;
        return DONE;
    }

    public int extra(int object, int value) {
        if (!isInstance(object)) {
            return REFUSED;
        }
        things[object].extra = value;
        return DONE;
    }

    public int data(long number, int count) {
        if (count < 1 || count > DATA_LIMIT) {
            return REFUSED;
        }
        if (!out.hasRoomToWait(count)) {
            return FULL;
        }
        out.letWait(number, count);
        return out.waits;
    }

    public int write(int object, boolean unshared) {
        if (object != NONE && !isMade(object)) {
            return REFUSED;
        }
        out.begin();
        out.flush();
        writeObject(object, unshared, 0);
        return out.settle();
    }

    public int reset() {
        out.begin();
        out.flush();
        out.put(MARK_RESET, 1);
        out.forgetHandles();
        return out.settle();
    }

    public int byteAt(int place) {
        if (place < 0 || place >= out.length) {
            return REFUSED;
        }
        return out.bytes[place] & 0xFF;
    }

    public int handle(int object) {
        if (!isMade(object) || out.last[object] == NONE) {
            return REFUSED;
        }
        return out.last[object];
    }

    public int count(int what) {
        switch (what) {
            case 0:
                return out.length;
            case 1:
                return out.waits;
            case 2:
                return out.handles;
            case 3:
                return made;
            case 4:
                return definedClasses();
            default:
                return REFUSED;
        }
    }

    public int object(int object, int what) {
        if (!isMade(object)) {
            return REFUSED;
        }
        Thing thing = things[object];
        switch (what) {
            case 0:
                return thing.sort;
            case 1:
                return thing.owner == NONE ? REFUSED : thing.owner;
            case 2:
                return thing.sort == SORT_TEXT ? thing.text.length() : thing.values.length;
            default:
                return REFUSED;
        }
    }

    private boolean isDefined(int number) {
        return number >= 0 && number < CLASS_LIMIT && classes[number] != null;
    }

    private boolean isMade(int object) {
        return object >= 0 && object < made;
    }

    private boolean isInstance(int object) {
        return isMade(object) && things[object].sort == SORT_INSTANCE;
    }

    private int definedClasses() {
        int sum = 0;
        for (int number = 0; number < CLASS_LIMIT; number++) {
            if (classes[number] != null) {
                sum += 1 << number;
            }
        }
        return sum;
    }

    private boolean mayStandAbove(int superclass, int kind) {
        if (!isDefined(superclass)) {
            return false;
        }
        int above = classes[superclass].kind;
        if (above > CUSTOM || kind > CUSTOM) {
            return false;
        }
        return kind != PLAIN || above == PLAIN;
    }

    private int[] chainTo(int number, int superclass) {
        if (superclass == NONE) {
            return new int[] {number};
        }
        int[] above = classes[superclass].chain;
        int[] chain = Arrays.copyOf(above, above.length + 1);
        chain[above.length] = number;
        return chain;
    }

    private int[] slotTypes(int[] chain) {
        int slots = 0;
        for (int level = 0; level < chain.length; level++) {
            slots += classes[chain[level]].fields;
        }
        int[] types = new int[slots];
        int first = 0;
        for (int level = 0; level < chain.length; level++) {
            Defined at = classes[chain[level]];
            System.arraycopy(at.types, 0, types, first, at.fields);
            first += at.fields;
        }
        return types;
    }

    private static String signsOf(long signs) {
        StringBuilder text = new StringBuilder();
        for (int shift = 56; shift >= 0; shift -= 8) {
            char sign = (char) (signs >>> shift & 0x7F);
            if (sign != 0) {
                text.append(sign);
            }
        }
        return text.toString();
    }

    private int keep(Thing thing) {
        things[made] = thing;
        made++;
        return made - 1;
    }

    private boolean mayBeHeld(long value, int type) {
        if (value == NONE) {
            return true;
        }
        if (value < 0 || value >= made) {
            return false;
        }
        return type == TYPE_OBJECT || things[(int) value].sort == SORT_INTS;
    }

    private void writeObject(int given, boolean unshared, int depth) {
        // Nothing more would be put, so the rest of the graph is spared.
        if (out.outcome != DONE) {
            return;
        }
        if (given == NONE) {
            out.put(MARK_NULL, 1);
            return;
        }
        // Each level gives one more object its handle, so this depth is never passed.
        if (depth > OBJECT_LIMIT) {
            out.outcome = FULL;
            return;
        }
        int object = replaced(given);
        if (!unshared && out.putReference(object)) {
            return;
        }
        switch (things[object].sort) {
            case SORT_TEXT:
                out.putText(object, things[object].text);
                break;
            case SORT_INTS:
                writeInts(object);
                break;
            case SORT_REFS:
                writeRefs(object, depth);
                break;
            case SORT_CONSTANT:
                writeConstant(object);
                break;
            default:
                writeInstance(object, depth);
                break;
        }
    }

    private int replaced(int given) {
        int object = given;
        int seen = 0;
        for (int step = 0; step < OBJECT_LIMIT; step++) {
            seen |= 1 << object;
            int next = things[object].replacement;
            if (next == NONE || (seen >> next & 1) != 0) {
                break;
            }
            object = next;
        }
        return object;
    }

    private void writeInts(int object) {
        long[] values = things[object].values;
        out.put(MARK_ARRAY, 1);
        if (out.openDescriptor(KEY_INTS, "[I", ID_INTS, FLAGS_SERIAL, 0)) {
            out.closeTopDescriptor();
        }
        out.giveHandle(object);
        out.put(values.length, 4);
        for (int place = 0; place < values.length; place++) {
            out.put(values[place], 4);
        }
    }

    private void writeRefs(int object, int depth) {
        long[] values = things[object].values;
        out.put(MARK_ARRAY, 1);
        if (out.openDescriptor(KEY_REFS, "[Ljava.lang.Object;", ID_REFS, FLAGS_SERIAL, 0)) {
            out.closeTopDescriptor();
        }
        out.giveHandle(object);
        out.put(values.length, 4);
        for (int place = 0; place < values.length; place++) {
            writeObject((int) values[place], false, depth + 1);
        }
    }

    private void writeConstant(int object) {
        Thing thing = things[object];
        out.put(MARK_CONSTANT, 1);
        writeDescriptor(classes[thing.owner]);
        out.giveHandle(object);
        // The name stays shared even when its constant is written unshared.
        if (!out.putReference(KEY_NAME + object)) {
            out.putText(KEY_NAME + object, thing.text);
        }
    }

    private void writeInstance(int object, int depth) {
        Thing thing = things[object];
        Defined owner = classes[thing.owner];
        if (owner.kind == PLAIN) {
            out.abort(owner.sign);
            return;
        }
        out.put(MARK_INSTANCE, 1);
        writeDescriptor(owner);
        out.giveHandle(object);
        int first = 0;
        for (int level = 0; level < owner.chain.length; level++) {
            Defined at = classes[owner.chain[level]];
            if (at.kind != PLAIN) {
                writeParts(thing, at, first, depth);
            }
            first += at.fields;
        }
    }

    private void writeParts(Thing thing, Defined at, int first, int depth) {
        for (int i = 0; i < at.shown; i++) {
            int field = at.order[i];
            int type = at.types[field];
            long value = thing.values[first + field];
            if (type >= TYPE_INTS) {
                writeObject((int) value, false, depth + 1);
            } else {
                out.put(type == TYPE_BOOLEAN ? value & 1 : value, TYPE_WIDTHS[type]);
            }
        }
        if (at.kind == CUSTOM) {
            out.put(MARK_BLOCK, 1);
            out.put(4, 1);
            out.put(thing.extra + at.number, 4);
            out.put(MARK_END, 1);
        }
    }

    private void writeDescriptor(Defined lowest) {
        for (int level = lowest.chain.length - 1; level >= 0; level--) {
            Defined at = classes[lowest.chain[level]];
            if (at.kind == PLAIN) {
                break;
            }
            if (!out.openDescriptor(KEY_CLASS + at.number, at.sign, at.id, at.flags(), at.shown)) {
                return;
            }
            for (int i = 0; i < at.shown; i++) {
                int type = at.types[at.order[i]];
                out.put(TYPE_SIGNS.charAt(type), 1);
                out.putSign(NAME_SIGNS.charAt(at.names[at.order[i]]));
                if (type == TYPE_INTS && !out.putReference(KEY_TYPE_INTS)) {
                    out.putText(KEY_TYPE_INTS, "[I");
                }
                if (type == TYPE_OBJECT && !out.putReference(KEY_TYPE_OBJECT)) {
                    out.putText(KEY_TYPE_OBJECT, "Ljava/lang/Object;");
                }
            }
            out.put(MARK_END, 1);
        }
        if (lowest.kind != CONSTANT) {
            out.put(MARK_NULL, 1);
        } else if (out.openDescriptor(KEY_ENUM, "java.lang.Enum", 0, FLAGS_CONSTANT, 0)) {
            out.closeTopDescriptor();
        }
    }

    /** A class of the graph. */
    private static final class Defined {
        final int number;
        final int kind;
        final long id;
        final String sign;
        /** The numbers of the classes from the topmost one down to this one. */
        final int[] chain;
        final int[] names = new int[FIELD_LIMIT];
        final int[] types = new int[FIELD_LIMIT];
        /** The fields that are not transient, as the descriptor orders them. */
        final int[] order = new int[FIELD_LIMIT];
        int fields;
        int shown;
        /** An object of it, or of a class below it, was made: its slots are fixed. */
        boolean used;

        Defined(int number, int kind, long id, int[] chain) {
            this.number = number;
            this.kind = kind;
            this.id = kind == CONSTANT ? 0 : id;
            this.sign = CLASS_SIGNS.substring(number, number + 1);
            this.chain = chain;
        }

        int flags() {
            if (kind == CONSTANT) {
                return FLAGS_CONSTANT;
            }
            return kind == CUSTOM ? FLAGS_CUSTOM : FLAGS_SERIAL;
        }

        boolean hasField(int name) {
            for (int field = 0; field < fields; field++) {
                if (names[field] == name) {
                    return true;
                }
            }
            return false;
        }

        void addField(int name, int type, boolean isTransient) {
            names[fields] = name;
            types[fields] = type;
            if (!isTransient) {
                putInOrder(fields);
            }
            fields++;
        }

        private void putInOrder(int field) {
            int place = shown;
            while (place > 0 && rank(order[place - 1]) > rank(field)) {
                order[place] = order[place - 1];
                place--;
            }
            order[place] = field;
            shown++;
        }

        private int rank(int field) {
            return types[field] < TYPE_INTS ? names[field] : NAMES + names[field];
        }
    }

    /** An object of the graph. */
    private static final class Thing {
        final int sort;
        final int owner;
        /** The types of what can be set; a text and a constant have none. */
        final int[] types;
        final long[] values;
        /** The signs of a text, the name of a constant. */
        final String text;
        int replacement = NONE;
        int extra;

        Thing(int sort, int owner, int[] types, String text) {
            this.sort = sort;
            this.owner = owner;
            this.types = types;
            this.text = text;
            this.values = new long[types.length];
            for (int slot = 0; slot < types.length; slot++) {
                if (types[slot] >= TYPE_INTS) {
                    values[slot] = NONE;
                }
            }
        }
    }

    /** The stream with its handles and waiting data; a call that passes the limit is undone whole. */
    private static final class Out {
        final byte[] bytes = new byte[STREAM_LIMIT];
        final byte[] waiting = new byte[WAITING_LIMIT];
        /** The last handle given to each key. */
        final int[] last = new int[KEYS];
        int length;
        int waits;
        int handles;
        /** How the call stands: DONE so far, FULL or ABORTED. Nothing more is put when it is not DONE. */
        int outcome = DONE;

        private final int[] lastBefore = new int[KEYS];
        private int lengthBefore;
        private int waitsBefore;
        private int handlesBefore;

        void begin() {
            System.arraycopy(last, 0, lastBefore, 0, KEYS);
            lengthBefore = length;
            waitsBefore = waits;
            handlesBefore = handles;
        }

        /** Ends what begin() began and says what the call answers. */
        int settle() {
            int answer = outcome == DONE ? length : outcome;
            if (outcome == FULL) {
                goBack();
            } else if (outcome == ABORTED) {
                forgetHandles();
            }
            outcome = DONE;
            return answer;
        }

        private void goBack() {
            System.arraycopy(lastBefore, 0, last, 0, KEYS);
            length = lengthBefore;
            // The waiting bytes themselves still stand: a flush only reads them.
            waits = waitsBefore;
            handles = handlesBefore;
        }

        /** Puts the lowest bytes of the number, as many as width says, the highest first. */
        void put(long number, int width) {
            if (outcome == DONE && length + width > STREAM_LIMIT) {
                outcome = FULL;
            }
            if (outcome != DONE) {
                return;
            }
            for (int shift = 8 * width - 8; shift >= 0; shift -= 8) {
                bytes[length] = (byte) (number >>> shift);
                length++;
            }
        }

        void putUtf(String signs) {
            put(signs.length(), 2);
            for (int i = 0; i < signs.length(); i++) {
                put(signs.charAt(i), 1);
            }
        }

        void putSign(char sign) {
            put(1, 2);
            put(sign, 1);
        }

        void giveHandle(int key) {
            last[key] = handles;
            handles++;
        }

        void forgetHandles() {
            Arrays.fill(last, NONE);
            handles = 0;
        }

        /** Answers false, and puts nothing, if the key has no handle. */
        boolean putReference(int key) {
            if (last[key] == NONE) {
                return false;
            }
            put(MARK_REFERENCE, 1);
            put(FIRST_HANDLE + last[key], 4);
            return true;
        }

        void putText(int key, String signs) {
            put(MARK_TEXT, 1);
            giveHandle(key);
            putUtf(signs);
        }

        /** Answers false if the key has a handle: then a reference is the whole descriptor. */
        boolean openDescriptor(int key, String name, long id, int flags, int fields) {
            if (putReference(key)) {
                return false;
            }
            put(MARK_DESCRIPTOR, 1);
            putUtf(name);
            put(id, 8);
            giveHandle(key);
            put(flags, 1);
            put(fields, 2);
            return true;
        }

        void closeTopDescriptor() {
            put(MARK_END, 1);
            put(MARK_NULL, 1);
        }

        void abort(String className) {
            put(MARK_ABORT, 1);
            put(MARK_RESET, 1);
            put(MARK_TEXT, 1);
            putUtf(className);
            put(MARK_RESET, 1);
            if (outcome == DONE) {
                outcome = ABORTED;
            }
        }

        /** The two bytes before a block count too, once it is full and flushed. */
        boolean hasRoomToWait(int count) {
            int head = waits + count >= WAITING_LIMIT ? 2 : 0;
            return length + waits + count + head <= STREAM_LIMIT;
        }

        void letWait(long number, int count) {
            for (int shift = 8 * count - 8; shift >= 0; shift -= 8) {
                waiting[waits] = (byte) (number >>> shift);
                waits++;
                if (waits == WAITING_LIMIT) {
                    flush();
                }
            }
        }

        void flush() {
            if (waits == 0) {
                return;
            }
            put(MARK_BLOCK, 1);
            put(waits, 1);
            for (int i = 0; i < waits; i++) {
                put(waiting[i], 1);
            }
            waits = 0;
        }
    }
}
