import java.util.function.Supplier;
import java.util.function.ToIntFunction;

/**
 * What all tests share: they tell every answer that is not due, with the sentence of DOC.md that it is of,
 * and end with exit code 1 if there was one.
 */
final class Checks {
    /** So few bytes are read of one object that its calls stay below 512, beyond which nothing is promised. */
    private static final int WINDOW = 80;

    private static final String DIGITS = "0123456789ABCDEF";

    private static int wrong = 0;
    private static String section = "";
    private static String sentence = "";

    private Checks() {
    }

    /** Names the section of DOC.md that the next sentences stand in. */
    static void section(String name) {
        section = name;
    }

    /** Runs the test of one sentence, which is given in the document's own words. A call that throws is wrong too. */
    static void sentence(String words, Runnable test) {
        sentence = section + ", \"" + words + "\": ";
        try {
            test.run();
        } catch (RuntimeException thrown) {
            tell("a call threw " + thrown);
        }
        sentence = "";
    }

    static void due(String call, long got, long want) {
        if (got != want) {
            tell(call + " answered " + got + ", due is " + want);
        }
    }

    static void due(String what, String got, String want) {
        if (!got.equals(want)) {
            tell(what + " is " + got + ", due is " + want);
        }
    }

    private static void tell(String what) {
        wrong++;
        System.out.println(sentence + what);
    }

    /** The bytes of the stream from a place on, as hexadecimal digits. */
    static String hex(GraphWriter x, int from) {
        return hex(x, from, x.count(0));
    }

    private static String hex(GraphWriter x, int from, int to) {
        StringBuilder hex = new StringBuilder();
        for (int place = from; place < to; place++) {
            int got = x.byteAt(place);
            if (got < 0 || got > 255) {
                hex.append('<').append(got).append('>');
            } else {
                hex.append(DIGITS.charAt(got >> 4)).append(DIGITS.charAt(got & 15));
            }
        }
        return hex.toString();
    }

    /** Compares the stream behind its first four bytes; spaces in what is due only help the reader. */
    static void dueStream(String what, GraphWriter x, String want) {
        dueStreamFrom(what, x, 4, want);
    }

    static void dueStreamFrom(String what, GraphWriter x, int from, String want) {
        due(what, hex(x, from), want.replace(" ", ""));
    }

    /** Compares the last bytes of the stream. */
    static void dueEnd(String what, GraphWriter x, String want) {
        dueStreamFrom(what, x, x.count(0) - want.replace(" ", "").length() / 2, want);
    }

    /** Compares what one call of write adds to the stream. */
    static void dueWritten(String what, GraphWriter x, int object, boolean unshared, String want) {
        int before = x.count(0);
        int added = want.replace(" ", "").length() / 2;
        due(what, x.write(object, unshared), before + added);
        dueStreamFrom(what, x, before, want);
    }

    /**
     * Shows that a call answers as due and changes nothing: a twin that never had the call tells the same of
     * itself and does the same from then on. Each part of the stream is read from a pair of twins of its own.
     */
    static void dueUnchanged(String call, Supplier<GraphWriter> make, ToIntFunction<GraphWriter> run, int want) {
        int length = make.get().count(0);
        for (int from = 0; from < length; from += WINDOW) {
            GraphWriter touched = make.get();
            due(call, run.applyAsInt(touched), want);
            due("all that is told after " + call, told(touched, from), told(make.get(), from));
        }
    }

    private static String told(GraphWriter x, int from) {
        StringBuilder all = new StringBuilder(looks(x));
        int length = x.count(0);
        all.append(hex(x, from, Math.min(length, from + WINDOW))).append(' ');
        all.append(use(x));
        return all.append(hex(x, length, Math.min(x.count(0), length + WINDOW))).toString();
    }

    private static String looks(GraphWriter x) {
        StringBuilder all = new StringBuilder();
        for (int what = 0; what <= 4; what++) {
            all.append(x.count(what)).append(' ');
        }
        for (int object = 0; object < 12; object++) {
            all.append(x.handle(object)).append(' ');
            for (int what = 0; what <= 2; what++) {
                all.append(x.object(object, what)).append(' ');
            }
        }
        return all.toString();
    }

    /** What can't be looked at (values, extras, replacements, waiting data, fields) shows when a writer is used on. */
    private static String use(GraphWriter x) {
        StringBuilder all = new StringBuilder();
        int objects = x.count(3);
        for (int object = objects - 1; object >= 0; object--) {
            all.append(x.write(object, false)).append(' ');
        }
        for (int object = 0; object < objects; object++) {
            all.append(x.write(object, true)).append(' ');
        }
        for (int number = 0; number < 6; number++) {
            all.append(x.field(number, 0, 7, false)).append(' ');
            all.append(x.field(number, 25, 0, false)).append(' ');
            all.append(x.define(number, 1, -1, 77)).append(' ');
            int made = x.instance(number);
            all.append(made).append(' ').append(x.object(made, 2)).append(' ');
        }
        return all.append(x.data(0x99, 1)).append(' ').append(x.reset()).append(' ').toString();
    }

    /** Makes the stream as long as is said, with no data waiting and no handles left, in some 200 calls at most. */
    static void fillTo(GraphWriter x, int length) {
        int reached = x.count(0);
        int waiting = x.count(1);
        while (length - reached - waiting >= 14) {
            int before = waiting;
            waiting = x.data(0x1112131415161718L, 8);
            reached += waiting < before ? 257 : 0;
        }
        reached = x.reset();
        while (reached > 0 && reached < length) {
            reached = x.write(-1, false);
        }
        due("the length that was filled to", x.count(0), length);
    }

    static void end() {
        if (wrong != 0) {
            System.out.println(wrong + " answers are not as due");
            System.exit(1);
        }
    }
}
