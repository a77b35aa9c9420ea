import java.io.IOException;
import java.nio.file.Files;
import java.nio.file.Path;
import java.util.ArrayList;
import java.util.List;
import java.util.regex.Matcher;
import java.util.regex.Pattern;

/**
 * The document's own grammar, read from its text and made a pattern: each LINE in each of its forms, whole, cut off, with a
 * TOKEN less, one more, another one. What is due is the first TOKEN behind which the pattern can't go on.
 */
public final class GrammarTests {
    private static final Path DOCUMENT = Path.of("../shared/DOC.md");
    private static final String GRAMMAR = "('chairs' NUMBER | 'costs' NUMBER | 'evening' SORT PRICE ['rain' NUMBER] | 'people' MANY 'comes' NUMBER "
            + "['thinks' NUMBER] ['wet' NUMBER] ['habit' NUMBER] ['falls' NUMBER] 'worth' NUMBER NUMBER NUMBER NUMBER ['young'] | "
            + "'seats' NUMBER 'adds' NUMBER | 'year' PRICE | 'ten' NUMBER PRICE | 'set' PRICE 'of' EVENING EVENING* | 'cheap' PRICE) ';'";
    static final String SENTENCE = "HALL: LINE*. LINE: " + GRAMMAR + ", all in capitals being NUMBERS;";
    private static final String AHEAD = "evening 1 1 ; evening 1 1 ; ";
    private static final String[] ONCE = {"chairs 1 ;", "costs 1 ;", "evening 1 1 ;", "evening 1 1 rain 1 ;", "seats 1 adds 1 ;", "year 1 ;",
        "ten 1 1 ;", "set 1 of 0 ;", "cheap 1 ;"};
    private static final String[] PERHAPS = {" thinks 1", " wet 1", " habit 1", " falls 1", " young"};
    private static final String[] OTHERS = {"1", ";", "?", "chairs", "costs", "evening", "rain", "people", "comes", "thinks", "wet", "habit", "falls",
        "worth", "young", "seats", "adds", "year", "ten", "set", "of", "cheap", "number", "line"};

    private static final Check CHECK = new Check();
    private static Pattern hall;

    private GrammarTests() {
    }

    public static void main(String[] args) throws IOException {
        CHECK.says("Terms 1", SENTENCE);
        hall = Pattern.compile("(?:" + pattern(grammar()) + ")*");
        List<String> lines = lines();
        CHECK.is("forms of a LINE", 41, () -> lines.size());
        CHECK.says("Terms 1", "In quotes is what stands there, [ ] perhaps, * any number of times, | one of some.");
        for (String line : lines) {
            List<String> tokens = List.of((AHEAD + line).split(" "));
            text(tokens);
            for (int i = AHEAD.split(" ").length; i < tokens.size(); i++) {
                text(tokens.subList(0, i));
                changed(tokens, i);
            }
            text(with(tokens, tokens.size(), "evening"));
        }
        severalLines();
        CHECK.end();
    }

    /** The words as they stand in the document, where it lies beside the project. */
    private static String grammar() throws IOException {
        if (!Files.isReadable(DOCUMENT)) {
            return GRAMMAR;
        }
        String document = Files.readString(DOCUMENT).replaceAll("\\s+", " ");
        int from = document.indexOf("LINE: (") + 6;
        return document.substring(from, document.indexOf(", all in capitals", from));
    }

    /** Each TOKEN is itself and a blank, each NUMBER the number 0 or 1 and a blank. */
    private static String pattern(String grammar) {
        Matcher m = Pattern.compile("'([^']*)'|[A-Z]+|[\\[\\]()|*]|\\s+").matcher(grammar);
        StringBuilder pattern = new StringBuilder();
        int at = 0;
        while (m.find()) {
            if (m.start() != at) {
                throw new IllegalStateException("not a grammar at " + at + ": " + grammar);
            }
            at = m.end();
            pattern.append(part(m.group(), m.group(1)));
        }
        if (at != grammar.length()) {
            throw new IllegalStateException("not a grammar at " + at + ": " + grammar);
        }
        return pattern.toString();
    }

    private static String part(String sign, String quoted) {
        if (quoted != null) {
            return "(?:" + Pattern.quote(quoted) + " )";
        }
        switch (sign) {
            case "[":
            case "(":
                return "(?:";
            case "]":
                return ")?";
            case ")":
            case "|":
            case "*":
                return sign;
            default:
                return sign.isBlank() ? "" : "(?:[01] )";
        }
    }

    private static List<String> lines() {
        List<String> lines = new ArrayList<>(List.of(ONCE));
        for (int form = 0; form < 32; form++) {
            StringBuilder line = new StringBuilder("people 1 comes 1");
            for (int i = 0; i < 5; i++) {
                line.append(i == 4 ? " worth 1 1 1 1" : "").append((form >> i & 1) == 1 ? PERHAPS[i] : "");
            }
            lines.add(line + " ;");
        }
        return lines;
    }

    private static List<String> with(List<String> tokens, int i, String token) {
        List<String> all = new ArrayList<>(tokens);
        all.add(i, token);
        return all;
    }

    private static List<String> without(List<String> tokens, int i) {
        List<String> all = new ArrayList<>(tokens);
        all.remove(i);
        return all;
    }

    private static void changed(List<String> tokens, int i) {
        text(without(tokens, i));
        for (String other : OTHERS) {
            text(with(tokens, i, other));
            text(with(without(tokens, i), i, other));
        }
        if (i + 1 < tokens.size()) {
            text(with(without(tokens, i), i + 1, tokens.get(i)));
        }
    }

    /** A text of these TOKENS, a blank behind each. */
    private static void text(List<String> tokens) {
        String text = String.join(" ", tokens) + " ";
        int place = wrongAt(tokens, text.length());
        SeatHall x = new SeatHall();
        Check.feed(x, text);
        CHECK.is("[" + text + "]", place < 0 ? 0 : 1, () -> x.hall(text.length()));
        CHECK.is("[" + text + "] at", place, x::fault);
    }

    private static int wrongAt(List<String> tokens, int length) {
        StringBuilder ahead = new StringBuilder();
        boolean whole = true;
        for (String token : tokens) {
            int place = ahead.length();
            Matcher m = hall.matcher(ahead.append(token).append(' '));
            whole = m.matches();
            if (!whole && !m.hitEnd()) {
                return place;
            }
        }
        return whole ? -1 : length;
    }

    /** LINE*: none, each of them alone, all of them in two orders. */
    private static void severalLines() {
        CHECK.says("Terms 1", "HALL: LINE*.");
        text(List.of());
        List<String> lines = List.of("chairs 1 ;", "costs 1 ;", "evening 1 1 ;", "evening 1 1 rain 1 ;", "people 1 comes 1 worth 1 1 1 1 young ;",
                "seats 1 adds 1 ;", "year 1 ;", "ten 1 1 ;", "set 1 of 0 1 ;", "cheap 1 ;");
        List<String> all = new ArrayList<>();
        List<String> back = new ArrayList<>(List.of((AHEAD + "people 0 comes 1 worth 1 1 1 1 ;").split(" ")));
        for (int i = 0; i < lines.size(); i++) {
            all.addAll(List.of(lines.get(i).split(" ")));
            back.addAll(List.of(lines.get(lines.size() - 1 - i).split(" ")));
            text(all);
            text(back);
        }
        for (int i = 0; i <= all.size(); i++) {
            text(all.subList(0, i));
        }
    }
}
