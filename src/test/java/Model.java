import java.util.ArrayList;
import java.util.HashMap;
import java.util.List;
import java.util.Map;

/**
 * The document told a second time, as plainly as the Java library allows and in another way than the
 * program: texts as keys, whole copies before each write, exceptions for what ends a call.
 */
final class Model {
    private static final String[] TYPE_SIGNS = {"B", "C", "I", "J", "S", "Z", "[", "L"};
    private static final int[] WIDTHS = {1, 2, 4, 8, 2, 1};

    private record Field(int name, int type, boolean isTransient) {
        boolean primitive() {
            return type < 6;
        }
    }

    private static final class Kind {
        int number;
        int kind;
        long id;
        Kind above;
        final List<Field> fields = new ArrayList<>();

        List<Kind> chain() {
            List<Kind> chain = above == null ? new ArrayList<>() : above.chain();
            chain.add(this);
            return chain;
        }

        List<Field> shown() {
            List<Field> shown = new ArrayList<>(fields);
            shown.removeIf(Field::isTransient);
            shown.sort((a, b) -> a.primitive() != b.primitive() ? (a.primitive() ? -1 : 1) : a.name - b.name);
            return shown;
        }

        String name() {
            return "" + (char) ('A' + number);
        }
    }

    private static final class Thing {
        int sort;
        Kind kind;
        String text = "";
        final List<Long> values = new ArrayList<>();
        int replacement = -1;
        int extra;

        List<Field> slots() {
            List<Field> slots = new ArrayList<>();
            for (Kind at : kind.chain()) {
                slots.addAll(at.fields);
            }
            return slots;
        }
    }

    private static final class Abort extends RuntimeException {
        private static final long serialVersionUID = 1;
        private final String name;

        Abort(String name) {
            this.name = name;
        }
    }

    private final Map<Integer, Kind> kinds = new HashMap<>();
    private final List<Thing> things = new ArrayList<>();
    private List<Integer> stream = new ArrayList<>(List.of(0xAC, 0xED, 0, 5));
    private List<Integer> waiting = new ArrayList<>();
    private List<String> handles = new ArrayList<>();

    int define(int number, int kind, int superclass, long id) {
        if (number < 0 || number > 5 || kinds.containsKey(number) || kind < 0 || kind > 4) {
            return -1;
        }
        if (superclass != -1) {
            Kind above = kinds.get(superclass);
            if (above == null || above.kind > 2 || kind > 2 || (kind == 0 && above.kind != 0)) {
                return -1;
            }
        }
        Kind made = new Kind();
        made.number = number;
        made.kind = kind;
        made.id = id;
        made.above = kinds.get(superclass);
        kinds.put(number, made);
        return 0;
    }

    int field(int number, int name, int type, boolean isTransient) {
        Kind kind = kinds.get(number);
        if (kind == null || kind.kind == 3 || name < 0 || name > 25 || type < 0 || type > 7) {
            return -1;
        }
        for (Thing thing : things) {
            if (thing.kind != null && thing.kind.chain().contains(kind)) {
                return -1;
            }
        }
        if (kind.fields.size() == 4 || kind.fields.stream().anyMatch(f -> f.name == name)) {
            return -1;
        }
        kind.fields.add(new Field(name, type, isTransient));
        return kind.fields.size();
    }

    private int make(int sort, Kind kind, String text) {
        if (things.size() == 12) {
            return -2;
        }
        Thing thing = new Thing();
        thing.sort = sort;
        thing.kind = kind;
        thing.text = text;
        things.add(thing);
        return things.size() - 1;
    }

    int instance(int number) {
        Kind kind = kinds.get(number);
        if (kind == null || kind.kind == 3) {
            return -1;
        }
        int made = make(0, kind, "");
        if (made >= 0) {
            for (Field field : things.get(made).slots()) {
                things.get(made).values.add(field.primitive() ? 0L : -1L);
            }
        }
        return made;
    }

    int text(long signs) {
        StringBuilder text = new StringBuilder();
        for (int i = 7; i >= 0; i--) {
            int sign = (int) (signs >> (8 * i)) & 255;
            if (sign > 127) {
                return -1;
            }
            if (sign != 0) {
                text.append((char) sign);
            }
        }
        return make(1, null, text.toString());
    }

    int array(boolean refs, int length) {
        if (length < 0 || length > (refs ? 4 : 6)) {
            return -1;
        }
        int made = make(refs ? 3 : 2, null, "");
        for (int i = 0; made >= 0 && i < length; i++) {
            things.get(made).values.add(refs ? -1L : 0L);
        }
        return made;
    }

    int constant(int number, int name) {
        Kind kind = kinds.get(number);
        if (kind == null || kind.kind != 3 || name < 0 || name > 25) {
            return -1;
        }
        return make(4, kind, "" + (char) ('a' + name));
    }

    private boolean missing(int object) {
        return object < 0 || object >= things.size();
    }

    int set(int object, int slot, long value) {
        if (missing(object) || slot < 0 || slot >= things.get(object).values.size()) {
            return -1;
        }
        Thing thing = things.get(object);
        int type = thing.sort == 2 ? 2 : thing.sort == 3 ? 7 : thing.slots().get(slot).type;
        if (type > 5 && value != -1) {
            if (value < 0 || value >= things.size() || (type == 6 && things.get((int) value).sort != 2)) {
                return -1;
            }
        }
        thing.values.set(slot, value);
        return 0;
    }

    int replace(int object, int other) {
        if (missing(object) || things.get(object).sort != 0 || other == object || (other != -1 && missing(other))) {
            return -1;
        }
        things.get(object).replacement = other;
        return 0;
    }

    int extra(int object, int value) {
        if (missing(object) || things.get(object).sort != 0) {
            return -1;
        }
        things.get(object).extra = value;
        return 0;
    }

    int data(long number, int count) {
        if (count < 1 || count > 8) {
            return -1;
        }
        List<Integer> streamBefore = new ArrayList<>(stream);
        List<Integer> waitingBefore = new ArrayList<>(waiting);
        for (int i = count - 1; i >= 0; i--) {
            waiting.add((int) (number >> (8 * i)) & 255);
            if (waiting.size() == 255) {
                flush();
            }
        }
        if (stream.size() + waiting.size() > 1400) {
            stream = streamBefore;
            waiting = waitingBefore;
            return -2;
        }
        return waiting.size();
    }

    private void flush() {
        if (!waiting.isEmpty()) {
            bytes(0x77, 1);
            bytes(waiting.size(), 1);
            stream.addAll(waiting);
            waiting = new ArrayList<>();
        }
    }

    int write(int object, boolean unshared) {
        if (object != -1 && missing(object)) {
            return -1;
        }
        List<Integer> streamBefore = new ArrayList<>(stream);
        List<Integer> waitingBefore = new ArrayList<>(waiting);
        List<String> handlesBefore = new ArrayList<>(handles);
        int answer = -3;
        flush();
        try {
            one(object, unshared);
            answer = stream.size();
        } catch (Abort abort) {
            bytes(0x7B7974, 3);
            utf(abort.name);
            bytes(0x79, 1);
            handles.clear();
        }
        if (stream.size() > 1400) {
            stream = streamBefore;
            waiting = waitingBefore;
            handles = handlesBefore;
            return -2;
        }
        return answer;
    }

    int reset() {
        int more = waiting.isEmpty() ? 1 : 3 + waiting.size();
        if (stream.size() + more > 1400) {
            return -2;
        }
        flush();
        bytes(0x79, 1);
        handles.clear();
        return stream.size();
    }

    int byteAt(int place) {
        return place < 0 || place >= stream.size() ? -1 : stream.get(place);
    }

    int handle(int object) {
        return missing(object) ? -1 : handles.lastIndexOf("object " + object);
    }

    int count(int what) {
        int classes = 0;
        for (int number : kinds.keySet()) {
            classes |= 1 << number;
        }
        int[] counts = {stream.size(), waiting.size(), handles.size(), things.size(), classes};
        return what < 0 || what > 4 ? -1 : counts[what];
    }

    int object(int object, int what) {
        if (missing(object) || what < 0 || what > 2) {
            return -1;
        }
        Thing thing = things.get(object);
        int owner = thing.kind == null ? -1 : thing.kind.number;
        int size = thing.sort == 1 ? thing.text.length() : thing.values.size();
        return what == 0 ? thing.sort : what == 1 ? owner : size;
    }

    private void bytes(long number, int width) {
        for (int i = width - 1; i >= 0; i--) {
            stream.add((int) (number >> (8 * i)) & 255);
        }
    }

    private void utf(String signs) {
        bytes(signs.length(), 2);
        for (char sign : signs.toCharArray()) {
            bytes(sign, 1);
        }
    }

    private boolean back(String key) {
        if (handles.contains(key)) {
            bytes(0x71, 1);
            bytes(0x7E0000 + handles.lastIndexOf(key), 4);
            return true;
        }
        return false;
    }

    private void sharedText(String key, String signs) {
        if (!back(key)) {
            bytes(0x74, 1);
            handles.add(key);
            utf(signs);
        }
    }

    private void one(int given, boolean unshared) {
        if (given == -1) {
            bytes(0x70, 1);
            return;
        }
        List<Integer> way = new ArrayList<>();
        int object = given;
        way.add(object);
        while (things.get(object).replacement != -1 && !way.contains(things.get(object).replacement)) {
            object = things.get(object).replacement;
            way.add(object);
        }
        String key = "object " + object;
        if (!unshared && back(key)) {
            return;
        }
        Thing thing = things.get(object);
        if (thing.sort == 1) {
            bytes(0x74, 1);
            handles.add(key);
            utf(thing.text);
        } else if (thing.sort == 2 || thing.sort == 3) {
            bytes(0x75, 1);
            if (thing.sort == 2) {
                topDescriptor("[I", 0x4DBA602676EAB2A5L, 2);
            } else {
                topDescriptor("[Ljava.lang.Object;", 0x90CE589F1073296CL, 2);
            }
            handles.add(key);
            bytes(thing.values.size(), 4);
            for (long value : thing.values) {
                part(thing.sort == 2 ? 2 : 7, value);
            }
        } else if (thing.sort == 4) {
            bytes(0x7E, 1);
            descriptor(thing.kind);
            handles.add(key);
            sharedText("name " + object, thing.text);
        } else {
            instance(thing, key);
        }
    }

    private void instance(Thing thing, String key) {
        if (thing.kind.kind == 0) {
            throw new Abort(thing.kind.name());
        }
        bytes(0x73, 1);
        descriptor(thing.kind);
        handles.add(key);
        int first = 0;
        for (Kind at : thing.kind.chain()) {
            if (at.kind != 0) {
                for (Field field : at.shown()) {
                    part(field.type, thing.values.get(first + at.fields.indexOf(field)));
                }
            }
            if (at.kind == 2) {
                bytes(0x7704, 2);
                bytes(thing.extra + at.number, 4);
                bytes(0x78, 1);
            }
            first += at.fields.size();
        }
    }

    private void part(int type, long value) {
        if (type > 5) {
            one((int) value, false);
        } else if (type == 5) {
            bytes(value % 2 == 0 ? 0 : 1, 1);
        } else {
            bytes(value, WIDTHS[type]);
        }
    }

    private void topDescriptor(String name, long id, int flags) {
        if (!back("class " + name)) {
            bytes(0x72, 1);
            utf(name);
            bytes(id, 8);
            handles.add("class " + name);
            bytes(flags, 1);
            bytes(0x00007870, 4);
        }
    }

    private void descriptor(Kind kind) {
        if (back("class " + kind.name())) {
            return;
        }
        bytes(0x72, 1);
        utf(kind.name());
        bytes(kind.kind == 3 ? 0 : kind.id, 8);
        handles.add("class " + kind.name());
        bytes(kind.kind == 3 ? 0x12 : kind.kind == 2 ? 3 : 2, 1);
        bytes(kind.shown().size(), 2);
        for (Field field : kind.shown()) {
            bytes(TYPE_SIGNS[field.type].charAt(0), 1);
            utf("" + (char) ('a' + field.name));
            if (field.type == 6) {
                sharedText("type [I", "[I");
            } else if (field.type == 7) {
                sharedText("type L", "Ljava/lang/Object;");
            }
        }
        bytes(0x78, 1);
        if (kind.kind == 3) {
            topDescriptor("java.lang.Enum", 0, 0x12);
        } else if (kind.above == null || kind.above.kind == 0) {
            bytes(0x70, 1);
        } else {
            descriptor(kind.above);
        }
    }
}
