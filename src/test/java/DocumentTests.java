import java.io.IOException;
import java.lang.reflect.Method;
import java.lang.reflect.Modifier;
import java.nio.file.Files;
import java.nio.file.Path;
import java.util.ArrayList;
import java.util.Arrays;
import java.util.List;
import java.util.TreeMap;
import java.util.regex.Matcher;
import java.util.regex.Pattern;
import java.util.stream.Stream;

/**
 * The document as a whole: its face is the class's, each promise has its heading and a line of the face, and every sentence of it
 * is named by a test ('says' a place and its words) but for those that ask nothing.
 */
public final class DocumentTests {
    private static final Path DOCUMENT = Path.of("../shared/DOC.md");
    private static final Path TESTS = Path.of("src/test/java");
    private static final String[] ASKS_NOTHING = {"; what later calls answer is free.",
        "How the state is held inside the object is free, as are the speed of each call, the text of toString and the behaviour of equals and "
            + "hashCode. Use of one object from several threads at once is not promised to be safe. Nothing is promised beyond the answers and state "
            + "changes described above, and nothing about an object after its 512th call."};
    private static final int PROMISES = 31;

    private static final Check CHECK = new Check();

    private DocumentTests() {
    }

    public static void main(String[] args) throws IOException {
        String document = Files.readString(DOCUMENT);
        List<String> face = face(document);
        faceIsTheClass(face);
        headings(document, face);
        sentences(document);
        CHECK.end();
    }

    // ---- the face ----

    private static List<String> face(String document) {
        List<String> face = new ArrayList<>();
        Matcher block = Pattern.compile("```java\n(.*?)```", Pattern.DOTALL).matcher(document);
        if (block.find()) {
            for (String line : block.group(1).split("\n")) {
                if (line.startsWith("    public ")) {
                    face.add(line.trim().replaceAll(";$", ""));
                }
            }
        }
        return face;
    }

    private static String told(Method method) {
        StringBuilder told = new StringBuilder(Modifier.toString(method.getModifiers())).append(' ').append(method.getReturnType().getSimpleName())
                .append(' ').append(method.getName()).append('(');
        for (Class<?> type : method.getParameterTypes()) {
            told.append(type.getSimpleName()).append(',');
        }
        told.append(')');
        for (Class<?> type : method.getExceptionTypes()) {
            told.append(' ').append(type.getSimpleName());
        }
        return told.toString();
    }

    /** A line of the face as a method is told: types alone in the brackets. */
    private static String told(String line) {
        int open = line.indexOf('(');
        int close = line.indexOf(')');
        StringBuilder told = new StringBuilder(line.substring(0, open + 1));
        for (String parameter : line.substring(open + 1, close).split(", ")) {
            told.append(parameter.isEmpty() ? "" : parameter.split(" ")[0] + ",");
        }
        return told.append(line.substring(close).replace(" throws", "").replace(",", "")).toString();
    }

    private static void faceIsTheClass(List<String> face) {
        CHECK.says("The public face", "public final class SeatHall { public static final int NONE = -1; public SeatHall();");
        CHECK.is("public and final", Modifier.PUBLIC | Modifier.FINAL, () -> SeatHall.class.getModifiers());
        CHECK.is("a new one", -1, () -> new SeatHall().fault());
        TreeMap<String, String> methods = new TreeMap<>();
        for (Method method : SeatHall.class.getDeclaredMethods()) {
            if (!Modifier.isPrivate(method.getModifiers()) && !method.isSynthetic()) {
                methods.put(method.getName(), told(method));
            }
        }
        CHECK.is("lines: the constant, the constructor, " + methods.size() + " methods", 2 + methods.size(), () -> face.size());
        CHECK.is("the constant", 1, () -> Check.bit(face.get(0).equals("public static final int NONE = -1") && SeatHall.NONE == -1));
        CHECK.is("the constructor", 1, () -> Check.bit(face.get(1).equals("public SeatHall()")));
        for (String line : face.subList(2, face.size())) {
            String name = line.substring(0, line.indexOf('(')).replaceAll(".* ", "");
            CHECK.is("[" + told(line) + "] is [" + methods.get(name) + "]", 1, () -> Check.bit(told(line).equals(methods.get(name))));
        }
    }

    private static void headings(String document, List<String> face) {
        CHECK.says("Promises", "## Promise 1: A new object `SeatHall()`:");
        Matcher m = Pattern.compile("## Promise (\\d+): ([\\w ]+)\n\n`([^`]*)`:").matcher(document);
        int last = 0;
        while (m.find()) {
            last++;
            int number = last;
            String signature = "public " + m.group(3);
            String name = m.group(2);
            long got = Long.parseLong(m.group(1));
            CHECK.is("promise " + name, number, () -> got);
            CHECK.is("promise " + number + " is the face's next line", 1, () -> Check.bit(signature.equals(face.get(number))));
            CHECK.is("promise " + number + " is of " + name, 1,
                    () -> Check.bit(number == 1 || signature.contains(" " + name + "(")));
        }
        int all = last;
        CHECK.is("promises", PROMISES, () -> all);
        CHECK.is("a promise for each line", face.size() - 1, () -> all);
    }

    // ---- the sentences ----

    private static String flat(String text) {
        return text.replaceAll("\\s+", " ");
    }

    /** What the document says, without its headings, its face and its marks. */
    private static String said(String document) {
        return flat(document.replaceAll("(?s)```java.*?```", " ").replaceAll("(?m)^#.*$", " ").replaceAll("(?m)^`[^`]*`:", " ")
                .replaceAll("```(text)?", " ").replaceAll("==== \\d\\. ", " ").replace("The constants: ", " "));
    }

    private static List<String> quotes() throws IOException {
        List<String> quotes = new ArrayList<>(Arrays.asList(ASKS_NOTHING));
        Pattern call = Pattern.compile("says\\(\"[^\"]*\",\\s*((?:\"(?:[^\"\\\\]|\\\\.)*\"(?:\\s*\\+\\s*)?)+)");
        Pattern part = Pattern.compile("\"((?:[^\"\\\\]|\\\\.)*)\"");
        List<Path> files;
        try (Stream<Path> all = Files.list(TESTS)) {
            files = all.filter(file -> file.toString().endsWith("Tests.java")).sorted().toList();
        }
        for (Path file : files) {
            Matcher says = call.matcher(Files.readString(file));
            while (says.find()) {
                StringBuilder quote = new StringBuilder();
                Matcher words = part.matcher(says.group(1));
                while (words.find()) {
                    quote.append(words.group(1));
                }
                quotes.add(quote.toString());
            }
        }
        quotes.add(GrammarTests.SENTENCE);
        return quotes;
    }

    private static void sentences(String document) throws IOException {
        CHECK.says("Every sentence", "## What it is");
        String said = said(document);
        boolean[] named = new boolean[said.length()];
        for (String quote : quotes()) {
            for (int at = said.indexOf(quote); at >= 0 && !quote.isEmpty(); at = said.indexOf(quote, at + 1)) {
                Arrays.fill(named, at, at + quote.length(), true);
            }
        }
        Matcher word = Pattern.compile("[A-Za-z0-9'.,]*[A-Za-z0-9']").matcher(said);
        while (word.find()) {
            int from = word.start();
            int to = word.end();
            String place = said.substring(Math.max(0, from - 60), Math.min(said.length(), to + 20));
            CHECK.is("named by a test: '" + word.group() + "' in '" + place + "'", 1, () -> Check.bit(all(named, from, to)));
        }
    }

    private static boolean all(boolean[] named, int from, int to) {
        boolean all = true;
        for (int i = from; i < to; i++) {
            all &= named[i];
        }
        return all;
    }
}
