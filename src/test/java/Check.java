import java.io.IOException;
import java.io.UncheckedIOException;
import java.nio.file.Files;
import java.nio.file.Path;
import java.util.NoSuchElementException;

/** Counts the tests of one main: each is a name with an answer that is due. */
final class Check {
    static final long NO_SUCH = Long.MIN_VALUE;
    static final long ILLEGAL = Long.MIN_VALUE + 1;
    static final long OTHER = Long.MIN_VALUE + 2;

    interface Call {
        long answer();
    }

    private static final Path DOCUMENT = Path.of("../shared/DOC.md");

    private int passed;
    private int failed;
    private String sentence = "";
    private String document = "";

    /** Tests from here on are of these words of the document: their names begin with them. */
    void says(String place, String words) {
        sentence = place + " '" + words + "'";
        if (!document().isEmpty() && !document().contains(words)) {
            failed++;
            System.out.println(sentence + " does not stand in the document");
        }
    }

    // Where the document does not lie beside the project no words are looked up in it.
    private String document() {
        if (document.isEmpty() && Files.isReadable(DOCUMENT)) {
            try {
                document = Files.readString(DOCUMENT).replaceAll("\\s+", " ");
            } catch (IOException e) {
                throw new UncheckedIOException(e);
            }
        }
        return document;
    }

    void is(String name, long want, Call call) {
        due(sentence + ": " + name, want, call);
    }

    void row(String name, long[] want, java.util.function.IntFunction<Long> call) {
        for (int i = 0; i < want.length; i++) {
            int at = i;
            is(name + " [" + i + "]", want[i], () -> call.apply(at));
        }
    }

    void due(String name, long want, Call call) {
        long got = ask(call);
        if (got == want) {
            passed++;
        } else {
            failed++;
            System.out.println(name + " answered " + told(got) + ", due is " + told(want));
        }
    }

    static long ask(Call call) {
        try {
            return call.answer();
        } catch (RuntimeException e) {
            if (e.getClass() == NoSuchElementException.class) {
                return NO_SUCH;
            }
            return e.getClass() == IllegalArgumentException.class ? ILLEGAL : OTHER;
        }
    }

    static String told(long answer) {
        if (answer == NO_SUCH) {
            return "throws.NoSuchElementException";
        }
        if (answer == ILLEGAL) {
            return "throws.IllegalArgumentException";
        }
        return answer == OTHER ? "throws another exception" : Long.toString(answer);
    }

    void end() {
        System.out.println(passed + " passed, " + failed + " failed");
        if (failed > 0) {
            System.exit(1);
        }
    }

    /** Feeds a text in twenties of bytes, with blanks behind it. */
    static int feed(SeatHall hall, String text) {
        int size = hall.count(7);
        for (int i = 0; i < text.length(); i += 20) {
            size = hall.feed(word(text, i), word(text, i + 4), word(text, i + 8), word(text, i + 12), word(text, i + 16));
        }
        return size;
    }

    static int word(String text, int from) {
        int word = 0;
        for (int i = from; i < from + 4; i++) {
            word = (word << 8) | (i < text.length() ? text.charAt(i) & 255 : 32);
        }
        return word;
    }

    /** An object that has read a text: a fault in it ends the tests. */
    static SeatHall hall(String text) {
        SeatHall hall = new SeatHall();
        feed(hall, text);
        int fault = hall.hall(text.length());
        if (fault != 0) {
            throw new IllegalStateException("fault " + fault + " at " + hall.fault() + " in " + text);
        }
        return hall;
    }

    static long bit(boolean answer) {
        return answer ? 1 : 0;
    }
}
