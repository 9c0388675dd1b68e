/** The MEMBERS by name, and which types have them. */
final class Member {
    static final int CALL = 0;
    static final int TWICE = 1;
    static final int VOLUME = 2;
    static final int WEIGHT = 3;
    static final int DESCRIBE = 4;
    static final int OPEN = 5;
    static final int MARK = 6;
    static final int TONE = 7;
    static final int RANK = 8;
    static final int SEED = 9;
    static final int SIZE = 10;
    static final int OVER = 11;

    static final int ALL = 12;

    // By member, a mark for each type; X: the type has the member.
    private static final String[] IN_TYPE = {
        "XXXXXXXXX", "XXXXXXXXX", ".XX.XXX.X", "...XXXX..", "...XXXX..", "...XXXX..",
        "...XXXX..", "XXX.....X", "...XXXX..", "...XXXX..", "...X...X.", "....X.X.."
    };

    private Member() {
    }

    static boolean isIn(int type, int member) {
        return IN_TYPE[member].charAt(type) == 'X';
    }

    static boolean needsThing(int member) {
        return member != TONE && member != RANK;
    }
}
