/** Situations that several tests begin with, and short ways to get there. */
final class Games {
    /** Each hand has the tiles of low values that the ones before it left. */
    static final String ZERO_AND_ONE = "0:00,01,02,03,04,05,06;1:11,12,13,14,15,16,22";
    static final String TWO_AND_THREE = "2:23,24,25,26,33,34,35;3:36,44,45,46,55,56,66";

    /** The hand 0 can lay all its tiles one behind the other at the right end. */
    static final String ROW_AND_REST = "0:00,01,11,12,22,23,33;1:02,03,04,05,06,13,14";
    static final String REST = "2:15,16,24,25,26,34,35;3:36,44,45,46,55,56,66";

    private Games() {
    }

    static void write(ClockDominoes x, String text) {
        x.clearBuffer();
        for (int place = 0; place < text.length(); place++) {
            x.append(text.charAt(place));
        }
    }

    static int given(ClockDominoes x, String text) {
        write(x, text);
        return x.giveAll();
    }

    static int played(ClockDominoes x, String text) {
        write(x, text);
        return x.play();
    }

    /** All tiles are given by two texts; no round is on. */
    static ClockDominoes dealt(String one, String two) {
        ClockDominoes x = new ClockDominoes();
        given(x, one);
        given(x, two);
        return x;
    }

    /** The tiles are given by rising values; no round is on. */
    static ClockDominoes sorted() {
        return dealt(ZERO_AND_ONE, TWO_AND_THREE);
    }

    static ClockDominoes sortedRound(int hand) {
        ClockDominoes x = sorted();
        x.begin(hand);
        return x;
    }

    /** A round of the hand 0 with a row, in which the others have no time. */
    static ClockDominoes rowRound() {
        ClockDominoes x = dealt(ROW_AND_REST, REST);
        x.begin(0);
        played(x, "l00>;t99;p;t99;p;t99;p");
        return x;
    }

    /** That round behind its last lay. */
    static ClockDominoes rowEnded() {
        ClockDominoes x = rowRound();
        played(x, "l01>;p;p;p;l11>;p;p;p;l12>;p;p;p;l22>;p;p;p;l23>;p;p;p;l33>");
        return x;
    }

    /** A call that throws must leave the digest, which tells of the whole state, as it was. */
    static void unchanged(Checks checks, ClockDominoes x, String what, Checks.Call call, String name) {
        long before = x.digest();
        checks.due(what, call, "throws." + name);
        checks.same(what + ", the digest behind it", x.digest(), before);
    }
}
