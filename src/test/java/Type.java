/** The TYPES by name, and which kinds are of them. */
final class Type {
    static final int VOICE = 0;
    static final int LOUD = 1;
    static final int SOFT = 2;
    static final int BASE = 3;
    static final int HOUND = 4;
    static final int CAT = 5;
    static final int KITTEN = 6;
    static final int ECHO = 7;
    static final int BIRD = 8;

    static final int ALL = 9;

    // By kind, a mark for each type; X: a thing of the kind is of the type.
    private static final String[] OF_KIND = {
        "XX.XX....", "X.XX.X...", "XXXX.XX..", "X......X.", "XX......X", "XX......X",
        "X........", "X........", "X........", "X.XX.X..."
    };

    private Type() {
    }

    static boolean has(int type, int kind) {
        return OF_KIND[kind].charAt(type) == 'X';
    }
}
