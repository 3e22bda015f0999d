/** Counts the answers that are not as due and ends a test with exit code 1 if there was one. */
final class Check {
    private static int asked = 0;
    private static int wrong = 0;

    private Check() {
    }

    static void due(String what, long got, long want) {
        asked++;
        if (got != want) {
            wrong++;
            System.out.println(what + " answered " + got + ", due is " + want);
        }
    }

    static void holds(String what, boolean truth) {
        asked++;
        if (!truth) {
            wrong++;
            System.out.println(what + " does not hold");
        }
    }

    static int wrong() {
        return wrong;
    }

    static void end(String test) {
        System.out.println(test + ": " + asked + " asked, " + wrong + " wrong");
        if (wrong != 0 || asked == 0) {
            System.exit(1);
        }
    }

    static void write(NameHall x, String text) {
        for (char letter : text.toCharArray()) {
            x.write(letter);
        }
    }

    /** A new object whose hall is the text. */
    static NameHall hallOf(String text) {
        NameHall x = new NameHall();
        write(x, text);
        if (x.hall() < 0) {
            throw new IllegalStateException("no hall: " + text);
        }
        return x;
    }
}
