import java.util.ArrayList;
import java.util.List;
import java.util.regex.Matcher;
import java.util.regex.Pattern;

/** The two kinds of input text, told as patterns; where a pattern ends too early, a match may still go on. */
final class PlainTexts {
    private static final String TILE = "(0[0-6]|1[1-6]|2[2-6]|3[3-6]|4[4-6]|5[56]|66)";
    private static final String STEP = "(l" + TILE + "[<>]|p|c[+-]|t[1-9][0-9]?)";
    private static final String GIFT = "([0-3]:" + TILE + "(," + TILE + ")*)";
    private static final Pattern GAME = Pattern.compile(STEP + "(;" + STEP + ")*");
    private static final Pattern TILES = Pattern.compile(GIFT + "(;" + GIFT + ")*");

    // Something that begins a text goes on to a whole one with one of these.
    private static final List<String> GAME_ENDS = List.of("", "p", "66<", "0<", "6<", "<", "+", "1");
    private static final List<String> TILES_ENDS = List.of("", "0:00", ":00", "66", "0", "6");

    private PlainTexts() {
    }

    static boolean isGame(String text) {
        return GAME.matcher(text).matches();
    }

    static boolean isTiles(String text) {
        return TILES.matcher(text).matches();
    }

    static int firstErrorOfGame(String text) {
        return firstError(text, GAME, GAME_ENDS);
    }

    static int firstErrorOfTiles(String text) {
        return firstError(text, TILES, TILES_ENDS);
    }

    private static int firstError(String text, Pattern pattern, List<String> ends) {
        for (int length = 1; length <= text.length(); length++) {
            if (!begins(text.substring(0, length), pattern, ends)) {
                return length - 1;
            }
        }
        return text.length();
    }

    private static boolean begins(String start, Pattern pattern, List<String> ends) {
        List<String> whole = new ArrayList<>();
        for (String end : ends) {
            Matcher matcher = pattern.matcher(start + end);
            if (matcher.matches()) {
                whole.add(start + end);
            }
        }
        return !whole.isEmpty();
    }
}
