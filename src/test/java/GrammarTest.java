import java.util.regex.Matcher;
import java.util.regex.Pattern;

/**
 * Faults by what the document says of a token, not by how a text is read: a token can stand where some text goes on
 * behind it. A token is a letter here; brackets that are closed are taken for a number, and what is left is held
 * against patterns. Every row of tokens up to a length is tried, behind each of them every token.
 */
public final class GrammarTest {
    private static final String SUM = "n(?:\\+n)*";
    private static final String TEST = SUM + "(?:<" + SUM + ")?";
    private static final String E = TEST + "(?:&" + TEST + ")*";
    private static final Pattern TESTS = Pattern.compile(E);
    private static final Pattern TEXT = Pattern.compile("(?:wh" + E + ";)*");
    private static final Pattern CLOSED = Pattern.compile("\\(" + E + "\\)");

    private static final String TOKENS = "whn()<+&;!";
    private static final String[][] SPELLED = {{"shelf", "store", "rag", "look"}, {"when"},
        {"1", "kind", "state", "season", "0", "now", "base", "giver", "9999"}, {"("}, {")"}, {"<", "="}, {"+", "-"},
        {"and"}, {";"}, {"?", "12345", "abcdefghi", "sell", "*", "W"}};
    private static final String[] BEHIND = {"", " ", " ? ;", "\n; rag when 1;", " 12345", " and and"};
    private static final int MOST_CALLS = 512;

    private GiftShops x = new GiftShops();
    private int calls = 0;
    private int texts = 0;

    public static void main(String[] args) {
        GrammarTest test = new GrammarTest();
        test.walk("", 13);
        test.walk("wh((((", 8);
        test.walk("whn+((((n))))&((((", 5);
        test.walk("whn;".repeat(15), 9);
        test.walk("wh(n);".repeat(16), 2);
        Check.yes("so many texts were tried: " + test.texts, test.texts > 250000);
        Check.end();
    }

    private void walk(String right, int more) {
        hold(right, isWhole(right) ? 0 : 1, "");
        for (int i = 0; i < TOKENS.length(); i++) {
            String tokens = right + TOKENS.charAt(i);
            int kind = kindOfLast(tokens);
            if (kind != 0) {
                hold(tokens, kind, BEHIND[texts % BEHIND.length]);
            } else if (more > 0) {
                walk(tokens, more - 1);
            }
        }
    }

    /** The least fault of the last token, where those before it are right. */
    private static int kindOfLast(String tokens) {
        if (!canStand(tokens)) {
            return 1;
        }
        char last = tokens.charAt(tokens.length() - 1);
        int brackets = count(tokens, '(') - count(tokens, ')') - (last == '(' ? 1 : 0);
        boolean tooDeep = (last == '(' || last == 'n') && brackets >= 5;
        boolean tooLong = last == 'w' && count(tokens, ';') >= 16;
        return tooDeep || tooLong ? 5 : 0;
    }

    private static boolean canStand(String tokens) {
        String left = withoutBrackets(tokens);
        if (left.indexOf(')') >= 0) {
            return false;
        }
        String[] open = left.split("\\(", -1);
        for (int i = 0; i < open.length; i++) {
            String piece = open[i] + (i < open.length - 1 ? "n" : "");
            if (!canGoOn(i == 0 ? TEXT : TESTS, piece)) {
                return false;
            }
        }
        return true;
    }

    private static boolean isWhole(String tokens) {
        return TEXT.matcher(withoutBrackets(tokens)).matches();
    }

    private static String withoutBrackets(String tokens) {
        String left = tokens;
        while (CLOSED.matcher(left).find()) {
            left = CLOSED.matcher(left).replaceAll("n");
        }
        return left;
    }

    private static boolean canGoOn(Pattern pattern, String begun) {
        Matcher m = pattern.matcher(begun);
        return m.matches() || m.hitEnd();
    }

    private static int count(String tokens, char token) {
        return (int) tokens.chars().filter(c -> c == token).count();
    }

    /** Kind 0: a right text; else the fault lies at the last token, or at the end if the tokens are right but few. */
    private void hold(String tokens, int kind, String behind) {
        StringBuilder text = new StringBuilder();
        int lastAt = 0;
        for (int i = 0; i < tokens.length(); i++) {
            String[] words = SPELLED[TOKENS.indexOf(tokens.charAt(i))];
            String word = words[(texts + i) % words.length];
            blanks(text, word.charAt(0), (texts / 3 + i) % 4);
            lastAt = text.length();
            text.append(word);
        }
        boolean atEnd = canStand(tokens) && kind == 1;
        blanks(text, behind.isEmpty() ? ' ' : behind.charAt(0), 0);
        int place = atEnd ? text.length() : lastAt;
        answer(text + (atEnd || kind == 0 ? "" : behind), kind == 0 ? 0 : kind + 16 * place, count(tokens, ';'));
        texts++;
    }

    /** Blanks where one likes, one at least where two tokens would be one. */
    private static void blanks(StringBuilder text, char next, int liked) {
        char last = text.length() == 0 ? ' ' : text.charAt(text.length() - 1);
        boolean wouldJoin = Character.isLetter(last) && Character.isLetter(next)
                || Character.isDigit(last) && Character.isDigit(next);
        text.append(liked == 1 ? " " : liked == 2 ? "\n " : wouldJoin ? " " : "");
    }

    private void answer(String text, int due, int lines) {
        int needed = text.length() / 24 + 4;
        if (calls + needed > MOST_CALLS) {
            x = new GiftShops();
            calls = 0;
        }
        calls += needed;
        Check.due("[" + text + "]", Check.read(x, text), due);
        if (due == 0) {
            Check.due("lines of [" + text + "]", x.count(7), lines);
        }
    }
}
