/** The boundaries of slots and counts: promises 27 to 29. */
public final class SlotsEdgesTest {
    private static final int UNKNOWN = Check.UNKNOWN, OUTSIDE = Check.OUTSIDE, STATE = Check.STATE, NONE = Check.NONE;

    public static void main(String[] args) {
        twoSlots();
        noneWereKept();
        whatIsKept();
        eachSlotForItself();
        keptOverAndOver();
        rowIsEmpty();
        whatIsNotKept();
        keptIsGoneByAHall();
        counts();
        countsAtTheirEnds();
        uses();
        Check.end("SlotsEdgesTest");
    }

    private static void due(String what, long got, long want) {
        Check.due(what, got, want);
    }

    private static void twoSlots() {
        Check.sentence("SLOTS 0 to 1 keep who wears what");
        Check.range("keep", slot -> new NameHall().keep(slot), 0, 1, UNKNOWN);
        Check.range("again", slot -> {
            NameHall x = new NameHall();
            x.keep(0);
            x.keep(1);
            return x.again(slot);
        }, 0, 1, UNKNOWN);
        Check.sentence("They are kept: THE HOUR. UNKNOWN.");
        NameHall x = Check.hallOf("HN05P09b");
        for (int h = 0; h <= 12; h++) {
            due("the hour", x.keep(h % 2), h);
            x.hour();
        }
    }

    private static void noneWereKept() {
        Check.sentence("They are as they were kept: THE HOUR. UNKNOWN; STATE: none were kept.");
        NameHall x = Check.hallOf("HN05P09b");
        due("none in 0", x.again(0), STATE);
        due("none in 1", x.again(1), STATE);
        x.keep(1);
        due("none in 0 still", x.again(0), STATE);
        due("kept in 1", x.again(1), 0);
        x.keep(0);
        due("kept in 0", x.again(0), 0);
        due("no such slot", x.again(2), UNKNOWN);
        due("no such slot", x.again(-1), UNKNOWN);
    }

    private static NameHall acted() {
        NameHall x = Check.hallOf("HN25N35N05N15P09pP09pP09pP09pP09p");
        x.take(0, 0);
        x.hour();
        x.take(1, 1);
        x.take(3, 0);
        Check.hours(x, 2);
        x.run(3);
        return x;
    }

    private static void changeAll(NameHall x) {
        x.hang(0);
        x.take(0, 2);
        x.take(2, 3);
        Check.hours(x, 3);
        x.run(2);
        x.hour();
    }

    private static void whatIsKept() {
        Check.sentence("keep who wears what, for how long, who, what is gone, what all WAITED, THE HOUR");
        NameHall x = acted();
        x.keep(0);
        changeAll(x);
        due("another hour", x.count(3), 7);
        due("the hour", x.again(0), 3);
        due("the hour", x.count(3), 3);
        due("wears", x.person(0, 3), 0);
        due("for how long", x.person(0, 4), 3);
        due("wears the heavy one", x.person(1, 3), 1);
        due("for how long", x.person(1, 4), 2);
        due("wears none", x.person(2, 3), NONE);
        due("gone", x.person(3, 7) * 10 + x.name(0, 3), 11);
        due("not gone", x.person(2, 7) * 10 + x.name(3, 3), 0);
        due("waited", x.person(2, 5) * 10 + x.person(4, 5), 33);
        due("waited", x.count(6), 8);
        x.hour();
        due("the heavy one goes on to its third hour", x.person(1, 3), NONE);
        String want = Look.at(withoutRow());
        NameHall y = acted();
        y.keep(1);
        changeAll(y);
        y.again(1);
        Check.same("all of it", Look.at(y), want);
    }

    /** As acted, but with the row emptied by a slot at once. */
    private static NameHall withoutRow() {
        NameHall x = acted();
        x.keep(1);
        x.again(1);
        return x;
    }

    private static void eachSlotForItself() {
        Check.sentence("SLOTS 0 to 1 keep");
        NameHall x = Check.hallOf("HN05N06P09dP09d");
        x.take(0, 0);
        x.keep(0);
        x.hour();
        x.hang(0);
        x.take(1, 1);
        x.keep(1);
        x.hour();
        due("0", x.again(0), 0);
        due("0", x.person(0, 3) * 100 + x.person(1, 3), NONE);
        due("1", x.again(1), 1);
        due("1", x.person(1, 3) * 100 + x.person(0, 3), 100 + NONE);
        due("0 once more", x.again(0), 0);
        due("0 once more", x.person(0, 3), 0);
    }

    private static void keptOverAndOver() {
        Check.sentence("They are as they were kept: THE HOUR.");
        NameHall x = Check.hallOf("HN05P09b");
        x.keep(0);
        x.take(0, 0);
        x.hour();
        for (int i = 0; i < 3; i++) {
            due("gone on from once more", x.again(0), 0);
            due("wears none", x.person(0, 3), NONE);
            x.take(0, 0);
            Check.hours(x, i + 1);
        }
        due("kept anew", x.keep(0), 3);
        x.hour();
        due("the last that was kept", x.again(0), 3);
        due("the last that was kept", x.person(0, 4), 3);
    }

    private static void rowIsEmpty() {
        Check.sentence("(THE ROW of ACTS is empty when one goes on).");
        NameHall x = Check.hallOf("HN05P09b");
        Check.hours(x, 20);
        x.keep(0);
        due("keeping leaves the row", x.count(7), 14);
        due("keeping leaves the row", x.undo(), 13);
        due("gone on from", x.again(0), 20);
        due("empty", x.count(7), 0);
        due("nothing to undo", x.undo(), STATE);
        x.hour();
        due("a new one", x.count(7), 1);
        due("undone", x.undo(), 0);
        due("as it was kept", x.count(3), 20);
        Check.hours(x, 15);
        due("fourteen again", x.count(7), 14);
        due("refused, the row stays", x.again(1), STATE);
        due("refused, the row stays", x.count(7), 14);
        due("refused, the row stays", x.again(2), UNKNOWN);
        due("refused, the row stays", x.count(7), 14);
    }

    private static void whatIsNotKept() {
        Check.sentence("keep who wears what, for how long, who, what is gone, what all WAITED, THE HOUR");
        NameHall x = Check.hallOf("HN05P09bP09b");
        x.keep(0);
        x.seed(8);
        x.see(1, 3);
        x.deed(0, 3);
        x.write('X');
        x.again(0);
        due("the seed", x.seed(0), 8);
        due("seen and deeds", x.count(8), 2);
        due("who", x.who(0), 1);
        due("the text", x.count(0), 13);
        x.keep(1);
        due("the other slot stays", x.again(0), 0);
    }

    private static void keptIsGoneByAHall() {
        Check.sentence("what was kept is gone");
        NameHall x = Check.hallOf("HN05P09b");
        x.keep(0);
        x.keep(1);
        x.hall();
        due("0", x.again(0), STATE);
        due("1", x.again(1), STATE);
        x.keep(1);
        due("kept again", x.again(1), 0);
        due("0 still", x.again(0), STATE);
        x.wipe();
        due("a text that is wiped changes nothing", x.again(1), 0);
        due("refused", x.hall(), STATE);
        due("a hall that is refused changes nothing", x.again(1), 0);
    }

    private static void counts() {
        Check.sentence("0 letters of THE TEXT, 1 NAMES, 2 PEOPLE, 3 THE HOUR, 4 who NEEDS a NAME now (bits), 5 who is SOMEBODY (bits), 6 what all WAITED, 7 ACTS in the row, 8 SEEN and DEEDS. OUTSIDE.");
        Check.range("count of nothing", new NameHall()::count, 0, 8, OUTSIDE);
        NameHall x = Check.hallOf("HN25N15N05P09pP12pP13gP22p");
        Check.range("count", x::count, 0, 8, OUTSIDE);
        x.take(0, 0);
        x.hour();
        x.take(2, 1);
        x.see(0, 0);
        int[] dues = {26, 3, 4, 1, 7, 1, 0, 3, 1};
        for (int what = 0; what <= 8; what++) {
            due("count " + what, x.count(what), dues[what]);
        }
        x.hour();
        due("two waited", x.count(6), 2);
        due("needs at 2", x.count(4), 15);
        x.take(1, 0);
        x.run(0);
        due("a gone one needs none", x.count(4), 14);
        due("a gone one is nobody", x.count(5), 2);
        due("what is gone is counted among names and people", x.count(1) * 10 + x.count(2), 34);
    }

    private static void countsAtTheirEnds() {
        Check.sentence("4 who NEEDS a NAME now (bits), 5 who is SOMEBODY (bits)");
        NameHall x = Check.hallOf("HN25N25N05P09pP09pP09pP09pP09p");
        due("all five need one", x.count(4), 31);
        for (int p = 0; p < 5; p++) {
            due("somebody", x.count(5), (1 << p) - 1);
            x.take(p, p / 2);
        }
        due("all five are somebody", x.count(5), 31);
        Check.hours(x, 9);
        due("at the last hour", x.count(4), 31);
        x.hour();
        due("behind it", x.count(4), 0);
        due("somebody all the same", x.count(5), 31);
    }

    private static void uses() {
        Check.sentence("An object is used for at most 512 calls after it has been made;");
        NameHall x = new NameHall();
        Check.hours(x, 511);
        due("the last call", x.count(3), 511);
        NameHall y = Check.hallOf("HP09aP09aP09aP09aP09a");
        Check.hours(y, 489);
        due("the last call", y.count(6), 50);
    }
}
