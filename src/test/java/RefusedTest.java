import java.util.ArrayList;
import java.util.List;
import java.util.function.Supplier;
import java.util.function.ToIntFunction;

/** Every refusal of every call, in each of several states: that it is told, and that it changes nothing. */
public final class RefusedTest {
    private static final int UNKNOWN = Check.UNKNOWN, OUTSIDE = Check.OUTSIDE, STATE = Check.STATE, FULL = Check.FULL;

    private record Refused(String call, int refusal, ToIntFunction<NameHall> made) {
    }

    private final Supplier<NameHall> state;
    private final List<Refused> calls = new ArrayList<>();

    private RefusedTest(Supplier<NameHall> state) {
        this.state = state;
    }

    public static void main(String[] args) {
        orderOfRefusals();
        nothingElseIsRefused();
        Check.sentence("What is refused changes nothing.");
        RefusedTest nothing = new RefusedTest(NameHall::new);
        nothing.outsideAlways();
        nothing.nobodyThere();
        nothing.holdAll("nothing");
        RefusedTest middle = new RefusedTest(RefusedTest::inTheMiddle);
        middle.outsideAlways();
        middle.outsideOfAHall();
        middle.unknown(4, 5);
        middle.stateInTheMiddle();
        middle.holdAll("in the middle");
        RefusedTest full = new RefusedTest(RefusedTest::fullOfAll);
        full.outsideAlways();
        full.outsideOfAHall();
        full.unknown(2, 3);
        full.stateOfFull();
        full.holdAll("full of all");
        Check.end("RefusedTest");
    }

    private static void orderOfRefusals() {
        Check.sentence("REFUSALS, of several the first that a call names:");
        NameHall x = fullOfAll();
        Check.due("write: OUTSIDE, FULL", x.write(256), OUTSIDE);
        Check.due("name: UNKNOWN, OUTSIDE", x.name(2, 4), UNKNOWN);
        Check.due("person: UNKNOWN, OUTSIDE", x.person(3, 8), UNKNOWN);
        Check.due("take: UNKNOWN, STATE, by one that wears one", x.take(1, 2), UNKNOWN);
        Check.due("take: UNKNOWN, STATE, of what is gone", x.take(3, 0), UNKNOWN);
        Check.due("see: UNKNOWN, OUTSIDE, FULL", x.see(3, 10), UNKNOWN);
        Check.due("see: UNKNOWN, FULL", x.see(3, 0), UNKNOWN);
        Check.due("see: OUTSIDE, FULL", x.see(0, 10), OUTSIDE);
        Check.due("see: FULL", x.see(0, 0), FULL);
        Check.due("deed: UNKNOWN, OUTSIDE, FULL", x.deed(2, 10), UNKNOWN);
        Check.due("deed: UNKNOWN, FULL", x.deed(2, 0), UNKNOWN);
        Check.due("deed: OUTSIDE, FULL", x.deed(0, 10), OUTSIDE);
        Check.due("deed: FULL", x.deed(0, 0), FULL);
        Check.due("share: UNKNOWN, OUTSIDE", x.share(2, 10, true), UNKNOWN);
        Check.due("rests: UNKNOWN, OUTSIDE", x.rests(3, 3, 0, 2), UNKNOWN);
        Check.due("rests: UNKNOWN, OUTSIDE", x.rests(0, 0, 2, 2), UNKNOWN);
        Check.due("letter: UNKNOWN, OUTSIDE", x.letter(3, 10, true), UNKNOWN);
        Check.sentence("OUTSIDE (another number is not as told), STATE (as told), FULL.");
        Check.due("OUTSIDE", x.count(9), -2);
        Check.due("STATE", x.hall(), -3);
        Check.due("FULL", x.write(0), -4);
        Check.due("UNKNOWN", x.keep(2), -1);
        Check.sentence("NONE is -9.");
        Check.due("NONE", x.person(2, 3), -9);
        Check.due("NONE", new NameHall().first(), -9);
    }

    /** What is gone is known on, and can be asked for. */
    private static void nothingElseIsRefused() {
        Check.sentence("UNKNOWN (there is no such NAME, PERSON, SLOT)");
        NameHall x = inTheMiddle();
        Check.due("a gone name", x.name(3, 3), 1);
        Check.due("a gone person", x.person(4, 7), 1);
        Check.due("seen", x.see(4, 0), 3);
        Check.due("a deed", x.deed(3, 0), 4);
        Check.due("who", x.who(3), 3);
        Check.due("share", x.share(3, 0, true), 0);
        Check.due("share, below", x.share(3, 0, false), 1);
        Check.due("letter", x.letter(4, 0, true), 0);
        Check.due("letter, below", x.letter(4, 0, false), 1);
        Check.due("rests", x.rests(4, 0, 3, 0), 1);
    }

    /** Gone ones, a heavy one about to be hung, one slot, acts, clues, a text that is the hall. */
    private static NameHall inTheMiddle() {
        NameHall x = Check.hallOf("HN25N35N15N05P09pP09pP39pP09aP09p");
        x.take(4, 3);
        x.hour();
        x.keep(1);
        x.take(0, 0);
        x.take(1, 1);
        Check.hours(x, 2);
        x.run(4);
        x.see(0, 3);
        x.deed(2, 3);
        x.seed(-7);
        return x;
    }

    /** As many letters, acts, clues and slots as there can be. */
    private static NameHall fullOfAll() {
        NameHall x = Check.hallOf("HN25N35P09pP09pP09p");
        x.take(0, 0);
        x.keep(0);
        Check.hours(x, 12);
        x.take(1, 1);
        x.keep(1);
        Check.hours(x, 2);
        x.hour();
        x.take(1, 0);
        x.run(0);
        for (int i = 0; i < 3; i++) {
            x.see(i, i);
            x.deed(i % 2, i);
        }
        for (int i = x.count(0); i < 40; i++) {
            x.write('N');
        }
        x.seed(Long.MIN_VALUE);
        return x;
    }

    private void add(String call, int refusal, ToIntFunction<NameHall> made) {
        calls.add(new Refused(call, refusal, made));
    }

    private void holdAll(String name) {
        String was = Look.deep(state);
        for (Refused refused : calls) {
            Check.due(name + ", " + refused.call, refused.made.applyAsInt(state.get()), refused.refusal);
            Check.same(name + ", " + refused.call, Look.deep(() -> {
                NameHall x = state.get();
                refused.made.applyAsInt(x);
                return x;
            }), was);
        }
    }

    /** What is outside whatever the hall is. */
    private void outsideAlways() {
        int[] lettersOutside = {-1, 256, 256 + 'H', Integer.MIN_VALUE, Integer.MAX_VALUE};
        for (int v : lettersOutside) add("write " + v, OUTSIDE, x -> x.write(v));
        int[] hoursOutside = {-1, 10, Integer.MIN_VALUE, Integer.MAX_VALUE};
        for (int h : hoursOutside) {
            add("most " + h, OUTSIDE, x -> x.most(h, true));
            add("most " + h, OUTSIDE, x -> x.most(h, false));
            add("waiting to " + h, OUTSIDE, x -> x.waiting(0, h));
            add("waiting from " + h, OUTSIDE, x -> x.waiting(h, 9));
        }
        add("waiting back", OUTSIDE, x -> x.waiting(1, 0));
        add("judge none", OUTSIDE, x -> x.judge(0, 0));
        add("judge five", OUTSIDE, x -> x.judge(5, 0));
        add("judge below", OUTSIDE, x -> x.judge(4, -1));
        add("judge above", OUTSIDE, x -> x.judge(1, 100));
        add("judge above", OUTSIDE, x -> x.judge(4, 100000000));
        int[] daysOutside = {-1, 0, 31, Integer.MIN_VALUE, Integer.MAX_VALUE};
        for (int m : daysOutside) add("days " + m, OUTSIDE, x -> x.days(m));
        int[] slotsUnknown = {-1, 2, Integer.MIN_VALUE, Integer.MAX_VALUE};
        for (int slot : slotsUnknown) {
            add("keep " + slot, UNKNOWN, x -> x.keep(slot));
            add("again " + slot, UNKNOWN, x -> x.again(slot));
        }
        int[] countsOutside = {-1, 9, Integer.MIN_VALUE, Integer.MAX_VALUE};
        for (int what : countsOutside) add("count " + what, OUTSIDE, x -> x.count(what));
    }

    private void nobodyThere() {
        unknown(0, 0);
        add("hall", STATE, x -> x.hall());
        add("undo", STATE, x -> x.undo());
        add("again 0", STATE, x -> x.again(0));
        add("again 1", STATE, x -> x.again(1));
    }

    /** For a hall of at least one name and two people. */
    private void outsideOfAHall() {
        int[] hoursOutside = {-1, 10, Integer.MIN_VALUE, Integer.MAX_VALUE};
        for (int h : hoursOutside) {
            add("see at " + h, OUTSIDE, x -> x.see(0, h));
            add("deed at " + h, OUTSIDE, x -> x.deed(0, h));
            add("share at " + h, OUTSIDE, x -> x.share(0, h, true));
            add("letter at " + h, OUTSIDE, x -> x.letter(0, h, false));
        }
        add("name, what 4", OUTSIDE, x -> x.name(0, 4));
        add("name, what -1", OUTSIDE, x -> x.name(0, -1));
        add("person, what 8", OUTSIDE, x -> x.person(0, 8));
        add("person, what -1", OUTSIDE, x -> x.person(0, -1));
        add("rests of one", OUTSIDE, x -> x.rests(1, 1, 0, 0));
        add("rests, what 2", OUTSIDE, x -> x.rests(0, 1, 0, 2));
        add("rests, what -1", OUTSIDE, x -> x.rests(0, 1, 0, -1));
    }

    private void unknown(int names, int people) {
        int[] namesUnknown = {-1, names, Integer.MIN_VALUE, Integer.MAX_VALUE};
        for (int n : namesUnknown) {
            add("name " + n, UNKNOWN, x -> x.name(n, 4));
            add("take the name " + n, UNKNOWN, x -> x.take(0, n));
            add("deed " + n, UNKNOWN, x -> x.deed(n, 10));
            add("who " + n, UNKNOWN, x -> x.who(n));
            add("share " + n, UNKNOWN, x -> x.share(n, 10, false));
            add("rests for " + n, UNKNOWN, x -> x.rests(0, 0, n, 2));
        }
        int[] peopleUnknown = {-1, people, Integer.MIN_VALUE, Integer.MAX_VALUE};
        for (int p : peopleUnknown) {
            add("person " + p, UNKNOWN, x -> x.person(p, 8));
            add("take by " + p, UNKNOWN, x -> x.take(p, 0));
            add("hang " + p, UNKNOWN, x -> x.hang(p));
            add("run " + p, UNKNOWN, x -> x.run(p));
            add("see " + p, UNKNOWN, x -> x.see(p, 10));
            add("letter " + p, UNKNOWN, x -> x.letter(p, 10, true));
            add("rests of " + p, UNKNOWN, x -> x.rests(p, 0, 0, 2));
            add("rests with " + p, UNKNOWN, x -> x.rests(0, p, 0, 2));
        }
    }

    private void stateInTheMiddle() {
        add("take by one that wears one", STATE, x -> x.take(0, 2));
        add("take without room", STATE, x -> x.take(2, 1));
        add("take what fits not", STATE, x -> x.take(3, 2));
        add("take by a gone one", STATE, x -> x.take(4, 2));
        add("take what is gone", STATE, x -> x.take(2, 3));
        add("hang by one that wears none", STATE, x -> x.hang(2));
        add("hang by a gone one", STATE, x -> x.hang(4));
        add("run by one that wears none", STATE, x -> x.run(2));
        add("run by a gone one", STATE, x -> x.run(4));
        add("again 0", STATE, x -> x.again(0));
    }

    private void stateOfFull() {
        add("write", FULL, x -> x.write('H'));
        add("write", FULL, x -> x.write(0));
        add("write", FULL, x -> x.write(255));
        add("hall", STATE, x -> x.hall());
        add("see", FULL, x -> x.see(1, 0));
        add("deed", FULL, x -> x.deed(1, 0));
        add("take what is gone", STATE, x -> x.take(2, 0));
        add("take by one that wears one", STATE, x -> x.take(1, 1));
        add("hang", STATE, x -> x.hang(2));
        add("run", STATE, x -> x.run(2));
        add("run by a gone one", STATE, x -> x.run(0));
    }
}
