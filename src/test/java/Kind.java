/** The KINDS by name. */
final class Kind {
    static final int HOUND = 0;
    static final int CAT = 1;
    static final int KITTEN = 2;
    static final int ECHO = 3;
    static final int WREN = 4;
    static final int OWL = 5;
    static final int SHADOW = 6;
    static final int TIMES = 7;
    static final int REPEATER = 8;
    static final int STRAY = 9;

    static final int ALL = 10;
    static final int[] BASES = {HOUND, CAT, KITTEN, STRAY};
    static final int[] OTHERS = {ECHO, WREN, OWL, SHADOW, TIMES, REPEATER};

    private Kind() {
    }
}
