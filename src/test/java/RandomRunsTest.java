import java.util.Random;
import java.util.function.LongSupplier;

/** Runs of calls by a fixed seed, held against the Model call by call. */
public final class RandomRunsTest {
    private static final int RUNS = 4000;
    /** What an object answers behind these calls is free. */
    private static final int CALLS = 512;

    private final Random random;
    private final NameHall x = new NameHall();
    private final Model y = new Model();
    private final StringBuilder calls = new StringBuilder();
    private int made = 0;

    private RandomRunsTest(long seed) {
        random = new Random(seed);
    }

    public static void main(String[] args) {
        for (int run = 0; run < RUNS && Check.wrong() == 0; run++) {
            new RandomRunsTest(run).goThrough(run);
        }
        Check.end("RandomRunsTest");
    }

    private void goThrough(int run) {
        if (run % 50 != 0) {
            writeHall();
        }
        // a step may make no call at all, so the steps have a bound of their own; the last calls look at all
        for (int i = 0; i < 4 * CALLS && made < CALLS - 61 && Check.wrong() == 0; i++) {
            step(run);
        }
        lookAtAll();
        if (Check.wrong() != 0) {
            System.out.println("run " + run + ": " + calls);
        }
    }

    private void due(String call, LongSupplier got, LongSupplier want) {
        if (made >= CALLS) {
            return;
        }
        made++;
        calls.append(call).append(' ');
        Check.due(call, got.getAsLong(), want.getAsLong());
    }

    private int upTo(int n) {
        return random.nextInt(n);
    }

    /** Mostly a number from 0 on below n, now and then one beside it. */
    private int about(int n) {
        int chance = upTo(40);
        if (chance == 0) return -1;
        if (chance == 1) return n;
        if (chance == 2) return random.nextInt();
        return upTo(n);
    }

    private void writeHall() {
        StringBuilder text = new StringBuilder("H");
        int names = 1 + upTo(4);
        int people = 1 + upTo(5);
        int wideHours = upTo(3);
        while (names + people > 0) {
            if (upTo(names + people) < names) {
                names--;
                text.append('N').append(upTo(4)).append(1 + upTo(upTo(2) == 0 ? 9 : 3));
            } else {
                people--;
                int a = upTo(wideHours == 0 ? 2 : 10);
                int b = a + upTo(10 - a);
                int m = upTo(3) == 0 ? upTo(16) : upTo(16) | upTo(16);
                text.append('P').append(a).append(b).append((char) ('a' + m));
            }
        }
        due("wipe()", () -> x.wipe(), () -> y.wipe());
        for (char c : text.toString().toCharArray()) writeLetter(c);
        due("fault()", () -> x.fault(), () -> y.fault());
        due("hall()", () -> x.hall(), () -> y.hall());
    }

    private void writeLetter(int c) {
        due("write(" + c + ")", () -> x.write(c), () -> y.write(c));
    }

    /** Letters that are mostly right, so that faults come late as well. */
    private void writeScribble() {
        due("wipe()", () -> x.wipe(), () -> y.wipe());
        String[] parts = {"H", "N", "P", "N05", "N39", "P09p", "P55a", "P3", "P31", "N4", "N0", "P00q", "\u0000", "\u00ff"};
        if (upTo(8) != 0) writeLetter('H');
        int n = upTo(9);
        for (int i = 0; i < n; i++) {
            String part = parts[upTo(4) == 0 ? upTo(parts.length) : 3 + upTo(4)];
            for (char c : part.toCharArray()) writeLetter(c);
            due("fault()", () -> x.fault(), () -> y.fault());
        }
        due("hall()", () -> x.hall(), () -> y.hall());
    }

    private void step(int run) {
        switch (upTo(14)) {
            case 0, 1, 2, 3 -> acts();
            case 4, 5 -> look();
            case 6, 7 -> somebody();
            case 8 -> clues();
            case 9, 10 -> chances();
            case 11 -> slots();
            case 12 -> {
                if (upTo(6) == 0) lookAtAll();
            }
            default -> text(run);
        }
    }

    private void acts() {
        int p = about(5);
        int n = about(4);
        switch (upTo(12)) {
            case 0, 1, 2, 3, 4 -> due("take(" + p + ", " + n + ")", () -> x.take(p, n), () -> y.take(p, n));
            case 5, 6 -> due("hang(" + p + ")", () -> x.hang(p), () -> y.hang(p));
            case 7, 8, 9 -> due("hour()", () -> x.hour(), () -> y.hour());
            case 10 -> {
                if (upTo(3) == 0) due("run(" + p + ")", () -> x.run(p), () -> y.run(p));
            }
            default -> due("undo()", () -> x.undo(), () -> y.undo());
        }
    }

    private void look() {
        int what = about(9);
        int p = about(5);
        switch (upTo(3)) {
            case 0 -> lookAtName(p, what);
            case 1 -> lookAtPerson(p, what);
            default -> lookAtCount(what);
        }
    }

    private void lookAtName(int n, int what) {
        due("name(" + n + ", " + what + ")", () -> x.name(n, what), () -> y.name(n, what));
    }

    private void lookAtPerson(int p, int what) {
        due("person(" + p + ", " + what + ")", () -> x.person(p, what), () -> y.person(p, what));
    }

    private void lookAtCount(int what) {
        due("count(" + what + ")", () -> x.count(what), () -> y.count(what));
    }

    private void somebody() {
        int a = about(10);
        int b = about(10);
        boolean way = random.nextBoolean();
        switch (upTo(12)) {
            case 0, 1, 2, 3 -> due("most(" + a + ", " + way + ")", () -> x.most(a, way), () -> y.most(a, way));
            case 4 -> {
                if (upTo(3) == 0) due("waiting(" + a + ", " + b + ")", () -> x.waiting(a, b), () -> y.waiting(a, b));
            }
            case 5 -> {
                if (upTo(3) == 0) due("first()", () -> x.first(), () -> y.first());
            }
            case 6, 7 -> due("fire(" + way + ")", () -> x.fire(way), () -> y.fire(way));
            default -> judgeThings();
        }
    }

    private void judgeThings() {
        int n = 1 + upTo(4);
        int row = 0;
        for (int i = 0; i < n; i++) {
            int thing = upTo(4) == 0 ? 0 : 10 * (1 + upTo(5)) + (upTo(3) == 0 ? 0 : 1 + upTo(4));
            row = 100 * row + (upTo(12) == 0 ? upTo(100) : thing);
        }
        int told = upTo(20) == 0 ? about(6) : n;
        int toldRow = upTo(20) == 0 ? random.nextInt() : row;
        due("judge(" + told + ", " + toldRow + ")", () -> x.judge(told, toldRow), () -> y.judge(told, toldRow));
    }

    private void clues() {
        int whose = about(upTo(2) == 0 ? 5 : 2);
        int h = about(10);
        switch (upTo(8)) {
            case 0, 1 -> due("see(" + whose + ", " + h + ")", () -> x.see(whose, h), () -> y.see(whose, h));
            case 2 -> due("deed(" + whose + ", " + h + ")", () -> x.deed(whose, h), () -> y.deed(whose, h));
            case 3 -> {
                if (upTo(3) == 0) due("forget()", () -> x.forget(), () -> y.forget());
            }
            default -> due("who(" + whose + ")", () -> x.who(whose), () -> y.who(whose));
        }
    }

    private void chances() {
        int p = about(5);
        int q = about(5);
        int n = about(4);
        int h = about(10);
        boolean upper = random.nextBoolean();
        switch (upTo(8)) {
            case 0 -> due("share(" + n + ", " + h + ", " + upper + ")", () -> x.share(n, h, upper), () -> y.share(n, h, upper));
            case 1, 2 -> {
                int what = about(2);
                due("rests(" + p + ", " + q + ", " + n + ", " + what + ")", () -> x.rests(p, q, n, what), () -> y.rests(p, q, n, what));
            }
            case 3, 4 -> due("letter(" + p + ", " + h + ", " + upper + ")", () -> x.letter(p, h, upper), () -> y.letter(p, h, upper));
            case 5 -> {
                long v = upTo(2) == 0 ? random.nextLong() : upTo(20) - 10;
                due("seed(" + v + ")", () -> x.seed(v), () -> y.seed(v));
            }
            default -> {
                int m = about(31);
                due("days(" + m + ")", () -> x.days(m), () -> y.days(m));
            }
        }
    }

    private void slots() {
        int slot = about(2);
        if (upTo(2) == 0) {
            due("keep(" + slot + ")", () -> x.keep(slot), () -> y.keep(slot));
        } else {
            due("again(" + slot + ")", () -> x.again(slot), () -> y.again(slot));
        }
    }

    /** All that can be looked at at once. */
    private void lookAtAll() {
        for (int what = -1; what <= 9; what++) {
            lookAtCount(what);
        }
        for (int p = 0; p < 5; p++) {
            for (int what = 0; what <= 7; what++) {
                lookAtPerson(p, what);
            }
            lookAtName(p, 2);
            lookAtName(p, 3);
        }
    }

    private void text(int run) {
        switch (upTo(30)) {
            case 0 -> writeHall();
            case 1 -> {
                if (run % 4 == 0) writeScribble();
            }
            case 2 -> due("hall()", () -> x.hall(), () -> y.hall());
            case 3, 4 -> writeLetter(about(256));
            case 5 -> due("fault()", () -> x.fault(), () -> y.fault());
            default -> {
            }
        }
    }
}
