/** What all tests share: they count the answers that are not due and end with exit code 1 if there was one. */
final class Checks {
    private static int wrong = 0;

    private Checks() {
    }

    static void due(String call, long got, long want) {
        if (got != want) {
            wrong++;
            System.out.println(call + " answered " + got + ", due is " + want);
        }
    }

    static void due(String what, String got, String want) {
        if (!got.equals(want)) {
            wrong++;
            System.out.println(what + " is " + got + ", due is " + want);
        }
    }

    /**
     * The bytes of the stream from a place on, as hexadecimal digits. Nothing is promised beyond 512 calls
     * of one object, so a long stream is read in its last part alone.
     */
    static String hex(GraphWriter x, int from) {
        StringBuilder hex = new StringBuilder();
        int length = x.count(0);
        for (int place = from; place < length; place++) {
            hex.append(String.format("%02X", x.byteAt(place)));
        }
        return hex.toString();
    }

    /** Compares the stream behind its first four bytes; spaces in what is due only help the reader. */
    static void dueStream(String what, GraphWriter x, String want) {
        dueStreamFrom(what, x, 4, want);
    }

    static void dueStreamFrom(String what, GraphWriter x, int from, String want) {
        due(what, hex(x, from), want.replace(" ", ""));
    }

    /** Compares the last bytes of the stream. */
    static void dueEnd(String what, GraphWriter x, String want) {
        dueStreamFrom(what, x, x.count(0) - want.replace(" ", "").length() / 2, want);
    }

    /** What the face shows of a writer, its last bytes alone, to see that a call has changed nothing. */
    static String face(GraphWriter x) {
        StringBuilder all = new StringBuilder(hex(x, Math.max(0, x.count(0) - 12)));
        for (int what = 0; what <= 4; what++) {
            all.append(' ').append(x.count(what));
        }
        int objects = x.count(3);
        for (int object = 0; object < objects; object++) {
            all.append(' ').append(x.handle(object));
        }
        return all.toString();
    }

    /** Makes the stream as long as is said, with no data waiting and no handles left, in some 200 calls at most. */
    static void fillTo(GraphWriter x, int length) {
        int reached = x.count(0);
        int waiting = x.count(1);
        while (length - reached - waiting >= 14) {
            int before = waiting;
            waiting = x.data(0x1112131415161718L, 8);
            reached += waiting < before ? 257 : 0;
        }
        reached = x.reset();
        while (reached > 0 && reached < length) {
            reached = x.write(-1, false);
        }
        due("the length that was filled to", x.count(0), length);
    }

    static void end() {
        if (wrong != 0) {
            System.out.println(wrong + " answers are not as due");
            System.exit(1);
        }
    }
}
