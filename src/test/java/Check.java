import java.io.IOException;
import java.nio.file.Files;
import java.nio.file.Path;
import java.util.function.IntUnaryOperator;

/** Counts the answers that are not as due and ends a test with exit code 1 if there was one. */
final class Check {
    static final int UNKNOWN = -1, OUTSIDE = -2, STATE = -3, FULL = -4, NONE = -9;

    private static int asked = 0;
    private static int wrong = 0;
    private static String sentence = "";
    private static String document;

    private Check() {
    }

    static void due(String what, long got, long want) {
        asked++;
        if (got != want) {
            wrong++;
            System.out.println(sentence + what + " answered " + got + ", due is " + want);
        }
    }

    static void holds(String what, boolean truth) {
        asked++;
        if (!truth) {
            wrong++;
            System.out.println(sentence + what + " does not hold");
        }
    }

    static void same(String what, String got, String want) {
        holds(what + "\n  is     " + got + "\n  is due " + want, got.equals(want));
    }

    /** What is asked next is held against this sentence, in the document's own words. */
    static void sentence(String quote) {
        sentence = "";
        holds("the document says: " + quote, document().contains(quote));
        sentence = "[" + quote + "] ";
    }

    private static String document() {
        if (document == null) {
            try {
                document = Files.readString(Path.of("../shared/DOC.md")).replaceAll("\\s+", " ");
            } catch (IOException e) {
                throw new IllegalStateException("no document", e);
            }
        }
        return document;
    }

    /** All from least to greatest are taken; those beside them and the farthest are refused. */
    static void range(String what, IntUnaryOperator call, int least, int greatest, int refusal) {
        for (int v = least; v <= greatest; v++) {
            int answer = call.applyAsInt(v);
            holds(what + " takes " + v + ", answered " + answer, answer >= 0 || answer == NONE);
        }
        int[] beside = {least - 1, least - 2, greatest + 1, greatest + 2, Integer.MIN_VALUE, Integer.MAX_VALUE};
        for (int v : beside) {
            due(what + " refuses " + v, call.applyAsInt(v), refusal);
        }
    }

    static int wrong() {
        return wrong;
    }

    static void end(String test) {
        System.out.println(test + ": " + asked + " asked, " + wrong + " wrong");
        if (wrong != 0 || asked == 0) {
            System.exit(1);
        }
    }

    static void write(NameHall x, String text) {
        for (char letter : text.toCharArray()) {
            x.write(letter);
        }
    }

    /** A new object whose hall is the text. */
    static NameHall hallOf(String text) {
        NameHall x = new NameHall();
        remake(x, text);
        return x;
    }

    /** The hall is made anew of another text. */
    static void remake(NameHall x, String text) {
        x.wipe();
        write(x, text);
        if (x.hall() < 0) {
            throw new IllegalStateException("no hall: " + text);
        }
    }

    static void hours(NameHall x, int n) {
        for (int i = 0; i < n; i++) {
            x.hour();
        }
    }
}
