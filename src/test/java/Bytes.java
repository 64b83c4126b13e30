/** Parts that many streams have, as hexadecimal digits. */
final class Bytes {
    static final String INTS = "72 0002 5B49 4DBA602676EAB2A5 02 0000 78 70 ";
    static final String REFS = "72 0013 5B4C6A6176612E6C616E672E4F626A6563743B 90CE589F1073296C 02 0000 78 70 ";
    static final String ENUM = "72 000E 6A6176612E6C616E672E456E756D 0000000000000000 12 0000 78 70 ";
    static final String INTS_TEXT = "74 0002 5B49 ";
    static final String OBJECT_TEXT = "74 0012 4C6A6176612F6C616E672F4F626A6563743B ";

    private Bytes() {
    }

    /** The descriptor of a class with ID 0 and no fields, as far as its superclass. */
    static String bare(int number, String flags) {
        return String.format("72 0001 %02X 0000000000000000 %s 0000 78 ", 'A' + number, flags);
    }

    /** A reference to a handle. */
    static String back(int handle) {
        return String.format("71 %08X ", 0x7E0000 + handle);
    }
}
