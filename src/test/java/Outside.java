/** Numbers too small or too large, the next ones first; a shift or a cast would take some of the others for good ones. */
final class Outside {
    /** For a door, or a pass, 1 to 48. */
    static final int[] NUMBERS = {0, 49, -1, 50, 63, 64, 65, 112, -63, 256 + 5, 65536 + 5, Integer.MIN_VALUE,
        Integer.MIN_VALUE + 1, Integer.MAX_VALUE};

    /** For a kind, 0 or 1. */
    static final int[] KINDS = {-1, 2, 3, 64, -64, 256, 65536, Integer.MIN_VALUE, Integer.MAX_VALUE};

    /** For a character, 32 to 126. */
    static final int[] CHARACTERS = {31, 127, 0, -1, 128, 256 + 'p', 65536 + 'p', -65536 + 'p', Integer.MIN_VALUE,
        Integer.MIN_VALUE + 'p', Integer.MAX_VALUE};

    private Outside() {
    }
}
