import java.util.ArrayList;
import java.util.HashMap;
import java.util.List;
import java.util.Map;
import java.util.regex.Matcher;
import java.util.regex.Pattern;

/**
 * The FAULTS of a text, found in another way than the program's: FAULT 1 by a pattern over the
 * tokens' names, the others line by line in the tokens of a text that has none of it.
 */
final class FaultModel {
    private static final int UNREADABLE = 1;
    private static final int BAD_NUMBER = 2;
    private static final int TOO_MANY = 3;
    private static final int TAKEN = 4;

    private static final Pattern TOKEN = Pattern.compile("[a-z]+|[0-9]+|[^ \n]");
    private static final Pattern PASSAGE = Pattern.compile("size # # ; (?:(?:wall # # |"
        + "walker # # (?:east|west) |(?:pace|late|haste) # # |hand # (?:right|left) |friends # # ); )*");
    private static final String TEST = "(?:not )?(?:blocked|facing|parted|"
        + "(?:ahead|soon|near|right|left|waited|haste|crowd) [<>=] #) ";
    private static final Pattern LAW = Pattern.compile("(?:(?:if " + TEST + "(?:and " + TEST
        + ")*: )?(?:go|right|left|hand|lot|wait) ; )*");

    private final List<String> tokens = new ArrayList<>();
    private final List<Integer> places = new ArrayList<>();
    private final int end;

    /** The FAULT and its place: 0 and -1 without one. */
    int fault;
    int place = -1;

    /** Of a PASSAGE: x, y, EAST, PACE, LATE, HASTE, HAND, FRIEND of each WALKER. */
    final List<int[]> walkers = new ArrayList<>();
    int length;
    int width;
    int walls;
    /** Of a LAW. */
    int rules;

    private FaultModel(String text) {
        Matcher m = TOKEN.matcher(text);
        while (m.find()) {
            tokens.add(m.group());
            places.add(m.start());
        }
        end = text.length();
    }

    static FaultModel ofPassage(String text) {
        FaultModel found = new FaultModel(text);
        if (found.goesOnBy(PASSAGE)) {
            found.readPassage();
        }
        return found;
    }

    static FaultModel ofLaw(String text) {
        FaultModel found = new FaultModel(text);
        if (found.goesOnBy(LAW)) {
            found.readLaw();
        }
        return found;
    }

    /** Whether the tokens are such a text; else where the first one is that no text goes on with. */
    private boolean goesOnBy(Pattern pattern) {
        StringBuilder names = new StringBuilder();
        for (int k = 0; k < tokens.size(); k++) {
            String token = tokens.get(k);
            names.append(token.matches("[0-9]{1,3}") ? "#" : token.equals("#") ? "?" : token).append(' ');
            Matcher m = pattern.matcher(names);
            // At the end of what is there the pattern must match, or be left wanting more.
            if (!m.matches() && !m.hitEnd()) {
                return blame(UNREADABLE, places.get(k));
            }
        }
        return pattern.matcher(names).matches() || blame(UNREADABLE, end);
    }

    private boolean blame(int itsFault, int at) {
        boolean first = place < 0 || at < place || at == place && itsFault < fault;
        if (first) {
            fault = itsFault;
            place = at;
        }
        return false;
    }

    private boolean isNumber(int k, int least, int most) {
        int number = Integer.parseInt(tokens.get(k));
        return number >= least && number <= most || blame(BAD_NUMBER, places.get(k));
    }

    private int number(int k) {
        return Integer.parseInt(tokens.get(k));
    }

    private void readPassage() {
        isNumber(1, 2, 16);
        isNumber(2, 1, 6);
        length = number(1);
        width = number(2);
        Map<Integer, Boolean> taken = new HashMap<>();
        int lines = 0;
        // Behind a line with a FAULT there is nothing that could be the first.
        for (int k = 4; k < tokens.size() && fault == 0; k++) {
            lines++;
            if (lines > 40) {
                blame(TOO_MANY, places.get(k));
            }
            readLine(k, taken);
            while (!tokens.get(k).equals(";")) {
                k++;
            }
        }
    }

    private void readLine(int k, Map<Integer, Boolean> taken) {
        String word = tokens.get(k);
        int last = walkers.size() - 1;
        if (word.equals("wall") || word.equals("walker")) {
            boolean walks = word.equals("walker");
            if (walks && last == 11) {
                blame(TOO_MANY, places.get(k));
            }
            boolean is = isNumber(k + 1, 0, length - 1) & isNumber(k + 2, 0, width - 1);
            if (is && taken.put(100 * number(k + 1) + number(k + 2), true) != null) {
                blame(TAKEN, places.get(k + 1));
            }
            if (walks) {
                int east = tokens.get(k + 3).equals("east") ? 1 : 0;
                walkers.add(new int[] {number(k + 1), number(k + 2), east, 1, 0, 0, 0, -1});
            } else {
                walls++;
            }
            return;
        }
        boolean is = isNumber(k + 1, 0, last);
        switch (word) {
            case "pace": is &= isNumber(k + 2, 1, 4); break;
            case "late": is &= isNumber(k + 2, 0, 3); break;
            case "haste": is &= isNumber(k + 2, 0, 9); break;
            case "friends":
                is &= isNumber(k + 2, 0, last);
                if (number(k + 1) == number(k + 2)) {
                    is = blame(BAD_NUMBER, places.get(k + 2));
                }
                break;
            default: break;
        }
        if (is) {
            strike(word, number(k + 1), tokens.get(k + 2));
        }
    }

    private void strike(String word, int w, String much) {
        switch (word) {
            case "pace": walkers.get(w)[3] = Integer.parseInt(much); break;
            case "late": walkers.get(w)[4] = Integer.parseInt(much); break;
            case "haste": walkers.get(w)[5] = Integer.parseInt(much); break;
            case "hand": walkers.get(w)[6] = much.equals("right") ? 1 : 2; break;
            default:
                int other = Integer.parseInt(much);
                for (int[] each : walkers) {
                    each[7] = each[7] == w || each[7] == other ? -1 : each[7];
                }
                walkers.get(w)[7] = other;
                walkers.get(other)[7] = w;
                break;
        }
    }

    private void readLaw() {
        int tests = 0;
        boolean begins = true;
        for (int k = 0; k < tokens.size(); k++) {
            String token = tokens.get(k);
            if (begins) {
                rules++;
                tests = 0;
                if (rules > 16) {
                    blame(TOO_MANY, places.get(k));
                }
            }
            begins = token.equals(";");
            if (token.equals("if") || token.equals("and")) {
                tests++;
                if (tests > 4) {
                    blame(TOO_MANY, places.get(k + 1));
                }
            }
        }
    }
}
