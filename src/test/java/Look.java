import java.util.function.Supplier;

/** All that can be seen of an object, as a text, so that two can be told apart. */
final class Look {
    private Look() {
    }

    /** What is seen without changing anything. */
    static String at(NameHall x) {
        StringBuilder seen = new StringBuilder();
        for (int what = 0; what <= 8; what++) {
            seen.append(x.count(what)).append(' ');
        }
        seen.append("| ").append(x.fault()).append(' ').append(x.first()).append(' ').append(x.fire(true));
        seen.append(' ').append(x.most(0, true)).append(' ').append(x.most(9, true)).append(" |");
        for (int n = 0; n < 4; n++) {
            for (int what = 0; what <= 3; what++) {
                seen.append(' ').append(x.name(n, what));
            }
            seen.append(' ').append(x.who(n)).append(" |");
        }
        for (int p = 0; p < 5; p++) {
            for (int what = 0; what <= 7; what++) {
                seen.append(' ').append(x.person(p, what));
            }
            seen.append(" |");
        }
        return seen.toString();
    }

    /** Only what acts change: short enough to be looked at behind each of 14 that are undone. */
    private static String scene(NameHall x) {
        StringBuilder seen = new StringBuilder();
        seen.append(x.count(3));
        for (int p = 0; p < 5; p++) {
            seen.append(' ').append(x.person(p, 3)).append(' ').append(x.person(p, 4));
            seen.append(' ').append(x.person(p, 5)).append(' ').append(x.person(p, 7));
        }
        for (int n = 0; n < 4; n++) {
            seen.append(' ').append(x.name(n, 3));
        }
        return seen.toString();
    }

    /** What is seen by changing it, too: each look takes an object of its own, so that none has more than 512 calls. */
    static String deep(Supplier<NameHall> made) {
        StringBuilder seen = new StringBuilder();
        NameHall x = made.get();
        seen.append(at(x)).append("\n  seed ").append(x.seed(1)).append("\n  text ").append(x.hall()).append(' ').append(at(x));
        NameHall y = made.get();
        for (int left = y.undo(); left >= 0; left = y.undo()) {
            seen.append("\n  undo ").append(left).append(' ').append(scene(y));
        }
        for (int slot = 0; slot <= 1; slot++) {
            NameHall z = made.get();
            seen.append("\n  again ").append(z.again(slot)).append(' ').append(at(z));
        }
        return seen.toString();
    }
}
