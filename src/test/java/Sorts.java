/** The numbers of the document that the tests speak of. */
final class Sorts {
    static final int MISSING = 64;
    static final int CIRCULAR = 128;
    static final int CHANGED = 192;
    static final int BARRED = 256;
    static final int NO_FIELD = 320;
    static final int NO_METHOD = 384;
    static final int CUT = 448;
    static final int UNFIT = 512;
    /** A MEMBER is blamed as this and its number. */
    static final int M = 16;

    static final int PUBLIC_CLASS = 1;
    static final int PUBLIC_FACE = 3;

    static final int PRIVATE = 0;
    static final int PACKAGE = 1;
    static final int PROTECTED = 2;
    static final int PUBLIC = 3;

    static final int STATIC = 1;
    static final int ABSTRACT = 2;
    static final int FINAL = 4;

    static final int GET = 0;
    static final int PUT = 1;
    static final int GET_STATIC = 2;
    static final int PUT_STATIC = 3;
    static final int VIRTUAL = 4;
    static final int SPECIAL = 5;
    static final int CALL_STATIC = 6;
    static final int FACE = 7;
    static final int TYPE = 8;

    /** Numbers that no argument may be, besides those next to its own bounds. */
    static final int[] FAR = {-1, -2, 1000, 4096, Integer.MIN_VALUE, Integer.MAX_VALUE};

    private Sorts() {
    }
}
