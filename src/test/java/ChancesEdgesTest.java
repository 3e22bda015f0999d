import java.math.BigInteger;

/** The boundaries of SHARE, RESTS, LETTER, THE SEED and DAYS: promises 22 to 26. */
public final class ChancesEdgesTest {
    private static final int UNKNOWN = Check.UNKNOWN, OUTSIDE = Check.OUTSIDE, NONE = Check.NONE;
    private static final long FACTOR = 6364136223846793005L, STEP = 1442695040888963407L;

    public static void main(String[] args) {
        fractions();
        refusalsOfFractions();
        shareOfOneName();
        shareOfMany();
        shareOfGoneOnes();
        shareAtItsHours();
        restsOfTwo();
        restsByBids();
        restsByFit();
        restsOneAfterAnother();
        restsOfGoneOnes();
        restsRefusals();
        letterByNumber();
        letterOfTwins();
        letterAtItsHours();
        letterOfGoneOnes();
        seed();
        seedWraps();
        daysRange();
        everyChance();
        upperBits();
        noSuchOnes();
        daysByActs();
        daysGoOnFromNow();
        onlyTheSeedChanges();
        Check.end("ChancesEdgesTest");
    }

    private static void due(String what, long got, long want) {
        Check.due(what, got, want);
    }

    private static void share(String what, NameHall x, int name, int h, int above, int below) {
        due(what + ", share above", x.share(name, h, true), above);
        due(what + ", share below", x.share(name, h, false), below);
    }

    private static void letter(String what, NameHall x, int person, int h, int above, int below) {
        due(what + ", letter above", x.letter(person, h, true), above);
        due(what + ", letter below", x.letter(person, h, false), below);
    }

    private static void fractions() {
        Check.sentence("FRACTIONS are told above (upper = true), below (1 and more), in least terms;");
        NameHall x = Check.hallOf("HN05N05N05N05P09pP00pP00p");
        share("nothing", Check.hallOf("HN05P09a"), 0, 0, 0, 1);
        share("one", Check.hallOf("HN05P09b"), 0, 0, 1, 1);
        share("two", Check.hallOf("HN25P09bP09b"), 0, 0, 2, 1);
        share("6 of 24", x, 0, 1, 1, 4);
        share("18 of 24", x, 0, 0, 3, 4);
        letter("nothing", Check.hallOf("HN05P09a"), 0, 0, 0, 1);
        letter("one", Check.hallOf("HN05P09b"), 0, 0, 1, 1);
        letter("65 of 81", x, 0, 0, 65, 81);
        letter("a name for it alone", Check.hallOf("HN05N05P09dP09bP09bP09b"), 0, 0, 1, 1);
        letter("4 and 2, 5 of 8", Check.hallOf("HN05N05P09dP09dP09bP09b"), 0, 0, 5, 8);
        letter("3 and 4, 6 of 12", Check.hallOf("HN05N05P09dP09dP09dP09b"), 0, 0, 1, 2);
    }

    private static void refusalsOfFractions() {
        Check.sentence("refusals of them are told likewise.");
        NameHall x = Check.hallOf("HN05P09b");
        boolean[] both = {true, false};
        for (boolean upper : both) {
            due("share, unknown", x.share(1, 0, upper), UNKNOWN);
            due("share, unknown", x.share(-1, 0, upper), UNKNOWN);
            due("share, outside", x.share(0, 10, upper), OUTSIDE);
            due("share, outside", x.share(0, -1, upper), OUTSIDE);
            due("share, unknown is named first", x.share(1, 10, upper), UNKNOWN);
            due("letter, unknown", x.letter(1, 0, upper), UNKNOWN);
            due("letter, unknown", x.letter(-1, 0, upper), UNKNOWN);
            due("letter, outside", x.letter(0, 10, upper), OUTSIDE);
            due("letter, outside", x.letter(0, -1, upper), OUTSIDE);
            due("letter, unknown is named first", x.letter(1, 10, upper), UNKNOWN);
        }
    }

    private static void shareOfOneName() {
        Check.sentence("SHARE of a NAME AT h: if NAMES come one by one, in each order as likely");
        for (int kind = 0; kind <= 3; kind++) {
            String hall = "HN" + kind + "5";
            for (int people = 0; people <= 5; people++) {
                int most = Math.min(people, kind == 2 ? 2 : 1);
                share("kind " + kind + " for " + people, Check.hallOf(hall), 0, 0, most, 1);
                hall += "P09b";
            }
        }
    }

    /** Each order's gains come to MOST together, so all shares do. */
    private static void shareOfMany() {
        Check.sentence("by how much in the mean MOST is more when it has come than it was: a FRACTION.");
        String[] halls = {"HN05N25P09dP09d", "HN05N25N05P09pP09bP09d", "HN05N25N25N35P09pP09hP09bP09dP09j", "HN05N05N05N05P09pP09b",
            "HN05N05N05N05P09h"};
        for (String hall : halls) {
            NameHall x = Check.hallOf(hall);
            long above = 0;
            for (int n = 0; n < x.count(1); n++) {
                int below = x.share(n, 0, false);
                Check.holds("24 can be parted by " + below, below >= 1 && 24 % below == 0);
                above += x.share(n, 0, true) * (24L / below);
            }
            due("all shares of " + hall, above, 24L * x.most(0, false));
        }
        NameHall y = Check.hallOf("HN05N25P09dP09d");
        share("a plain one beside a twin", y, 0, 0, 1, 2);
        share("a twin beside a plain one", y, 1, 0, 3, 2);
        NameHall z = Check.hallOf("HN05N05N05N05P09h");
        share("a third", z, 2, 0, 1, 3);
        share("fits nobody", z, 3, 0, 0, 1);
    }

    private static void shareOfGoneOnes() {
        Check.sentence("(a gone one brings nothing)");
        NameHall x = Check.hallOf("HN05N05N05P09pP00p");
        share("three names", x, 2, 1, 1, 3);
        x.take(1, 0);
        x.run(1);
        share("two names", x, 2, 1, 1, 2);
        share("two names", x, 1, 0, 1, 2);
        share("the gone one", x, 0, 1, 0, 1);
        x.undo();
        share("three names again", x, 0, 1, 1, 3);
        NameHall y = Check.hallOf("HN25P09bP09bP09b");
        y.take(0, 0);
        y.take(1, 0);
        y.run(0);
        share("gone, though another wears it on", y, 0, 0, 0, 1);
    }

    private static void shareAtItsHours() {
        Check.sentence("SHARE. UNKNOWN; OUTSIDE: h.");
        NameHall x = Check.hallOf("HN05P36b");
        for (int h = 0; h <= 9; h++) {
            share("at " + h, x, 0, h, h >= 3 && h <= 6 ? 1 : 0, 1);
        }
    }

    private static void restsOfTwo() {
        Check.sentence("pairs in which neither has more by another bid alone: how many; the first (10 times the one and the other); NONE.");
        for (int worth = 1; worth <= 9; worth++) {
            NameHall x = Check.hallOf("HN0" + worth + "P09bP09b");
            // by worth 1: 0 and 0, 0 and 1; by more the one that has it not bids 0, then less is bid, then more
            due("worth " + worth, x.rests(0, 1, 0, 0), worth == 1 ? 2 : 0);
            due("worth " + worth + ", the first", x.rests(0, 1, 0, 1), worth == 1 ? 0 : NONE);
            due("worth " + worth + ", the other way", x.rests(1, 0, 0, 0), worth == 1 ? 2 : 0);
            due("worth " + worth + ", the other way", x.rests(1, 0, 0, 1), worth == 1 ? 0 : NONE);
        }
    }

    private static void restsByBids() {
        Check.sentence("RESTS of two PEOPLE for a NAME: each bids 0 to 4; the greater bid has it (of like ones the first)");
        // were a bid that is not the greater one for nothing, 4 and 4 would be at rest from worth 4 on;
        // were there no bid but 0, 0 and 0 would be
        for (int worth = 2; worth <= 9; worth++) {
            NameHall x = Check.hallOf("HN0" + worth + "P09bP09b");
            due("no bid is the last one, worth " + worth, x.rests(0, 1, 0, 0), 0);
        }
        Check.sentence("who has it has its WORTH less the bid; who bids 1 or more and has it not has 1 less:");
        NameHall y = Check.hallOf("HN01N02P09dP09d");
        due("worth 1 less the bid 1 is no more than nothing", y.rests(0, 1, 0, 0), 2);
        due("worth 2 less the bid 1 is more than nothing", y.rests(0, 1, 1, 0), 0);
        Check.sentence("RESTS: how many (what = 0), the first (1); NONE.");
        due("how many", y.rests(0, 1, 0, 0), 2);
        due("the first", y.rests(0, 1, 0, 1), 0);
        due("none of none", y.rests(0, 1, 1, 0), 0);
        due("the first of none", y.rests(0, 1, 1, 1), NONE);
    }

    private static void restsByFit() {
        Check.sentence("if it FITS that one (else the other one has it, if it FITS that)");
        for (int worth = 1; worth <= 9; worth++) {
            NameHall x = Check.hallOf("HN0" + worth + "P09bP99aP00a");
            due("fits the one", x.rests(0, 1, 0, 0), 1);
            due("fits the one, the first", x.rests(0, 1, 0, 1), 0);
            due("fits the other", x.rests(1, 0, 0, 0), 1);
            due("fits the other, the first", x.rests(1, 0, 0, 1), 0);
            due("fits neither", x.rests(1, 2, 0, 0), 1);
            due("fits neither, the first", x.rests(1, 2, 0, 1), 0);
        }
    }

    /** What one call asked is nothing to the next: worth and fit are looked at anew, more and less. */
    private static void restsOneAfterAnother() {
        Check.sentence("if it FITS that one (else the other one has it, if it FITS that)");
        NameHall x = Check.hallOf("HN01N09P09dP09dP09aP09a");
        for (int round = 0; round < 2; round++) {
            due("worth 1", x.rests(0, 1, 0, 0), 2);
            due("worth 9", x.rests(0, 1, 1, 0), 0);
            due("fits the one", x.rests(0, 2, 1, 0), 1);
            due("fits both again", x.rests(0, 1, 1, 1), NONE);
            due("fits the other", x.rests(2, 0, 1, 0), 1);
            due("fits neither", x.rests(2, 3, 0, 0), 1);
        }
    }

    private static void restsOfGoneOnes() {
        Check.sentence("(WHO, RESTS of a NAME that is gone are as if it were not;");
        NameHall x = Check.hallOf("HN05N06P09dP09dP09d");
        x.take(0, 0);
        x.run(0);
        due("two that are there for the gone name", x.rests(1, 2, 0, 0), 0);
        due("two that are there for the gone name", x.rests(1, 2, 0, 1), NONE);
        due("two that are there for another", x.rests(1, 2, 1, 0), 0);
        due("nothing fits a gone one", x.rests(0, 1, 1, 0), 1);
        due("nothing fits a gone one", x.rests(1, 0, 1, 1), 0);
        x.undo();
        due("back again", x.rests(0, 1, 1, 0), 0);
    }

    private static void restsRefusals() {
        Check.sentence("UNKNOWN: one, other, name; OUTSIDE: both are one, what.");
        NameHall x = Check.hallOf("HN01P09bP09b");
        Check.range("what", what -> x.rests(0, 1, 0, what), 0, 1, OUTSIDE);
        due("both are one", x.rests(0, 0, 0, 0), OUTSIDE);
        due("both are one", x.rests(1, 1, 0, 1), OUTSIDE);
        due("both are one, what", x.rests(1, 1, 0, 2), OUTSIDE);
        due("both are one that there is not", x.rests(2, 2, 0, 0), UNKNOWN);
        due("both are one, no such name", x.rests(1, 1, 1, 0), UNKNOWN);
        due("no such name, what", x.rests(0, 1, 1, 2), UNKNOWN);
        due("no such other, what", x.rests(0, 2, 0, 2), UNKNOWN);
        due("no such one, what", x.rests(-1, 1, 0, -1), UNKNOWN);
    }

    private static void letterByNumber() {
        Check.sentence("comes to one of the PEOPLE that NEED one AT h and whom it FITS, each as likely, each NAME by itself: that a told PERSON has one at least: a FRACTION.");
        String[] names = {"N05", "N05N05", "N05N05N05", "N05N05N05N05"};
        for (int count = 1; count <= 4; count++) {
            String people = "";
            for (int takers = 1; takers <= 5; takers++) {
                people += "P09p";
                int all = 1;
                int missed = 1;
                for (int n = 0; n < count; n++) {
                    all *= takers;
                    missed *= takers - 1;
                }
                letter(count + " names, " + takers, Check.hallOf("H" + names[count - 1] + people), takers - 1, 5, all - missed, all);
            }
        }
        NameHall x = Check.hallOf("HN05N05P09bP09dP09c");
        letter("the one name", x, 0, 0, 1, 2);
        letter("both names", x, 1, 0, 3, 4);
        letter("the other name", x, 2, 0, 1, 2);
        letter("no names", Check.hallOf("HP09p"), 0, 0, 0, 1);
        letter("a name that fits nobody", Check.hallOf("HN05N05P09bP09b"), 0, 0, 1, 2);
    }

    private static void letterOfTwins() {
        Check.sentence("LETTER AT h: each NAME that is not gone (once, a TWIN, too)");
        for (int kind = 0; kind <= 3; kind++) {
            letter("kind " + kind, Check.hallOf("HN" + kind + "5P09bP09bP09b"), 0, 0, 1, 3);
        }
    }

    private static void letterAtItsHours() {
        Check.sentence("LETTER. UNKNOWN; OUTSIDE: h.");
        NameHall x = Check.hallOf("HN05P36bP09b");
        for (int h = 0; h <= 9; h++) {
            boolean needs = h >= 3 && h <= 6;
            letter("the one at " + h, x, 0, h, needs ? 1 : 0, needs ? 2 : 1);
            letter("the other at " + h, x, 1, h, 1, needs ? 2 : 1);
        }
    }

    private static void letterOfGoneOnes() {
        Check.sentence("LETTER AT h: each NAME that is not gone");
        NameHall x = Check.hallOf("HN25N05P09dP09dP09d");
        letter("three", x, 0, 0, 5, 9);
        x.take(0, 0);
        x.take(1, 0);
        letter("worn or not", x, 0, 0, 5, 9);
        x.run(0);
        letter("one name, two people", x, 1, 0, 1, 2);
        letter("a gone one has none", x, 0, 0, 0, 1);
        x.hang(1);
        x.take(1, 1);
        x.run(1);
        letter("no names any more", x, 2, 0, 0, 1);
    }

    private static void seed() {
        Check.sentence("THE SEED is v: what it was.");
        long[] seeds = {1, -1, Long.MAX_VALUE, Long.MIN_VALUE, 0, 1L << 32, -(1L << 32), Integer.MAX_VALUE, Integer.MIN_VALUE};
        NameHall x = new NameHall();
        long was = 0;
        for (long v : seeds) {
            due("what it was", x.seed(v), was);
            was = v;
        }
        Check.write(x, "HN05P09b");
        x.hall();
        x.hour();
        x.undo();
        x.keep(0);
        x.seed(4);
        x.again(0);
        due("neither halls nor acts nor slots change it", x.seed(0), 4);
    }

    private static void seedWraps() {
        Check.sentence("becomes x times 6364136223846793005 and 1442695040888963407 (64 bits, wrapping)");
        long[] seeds = {0, 1, 2, 5, -1, Long.MAX_VALUE, Long.MIN_VALUE, 1L << 33, (1L << 33) - 1, -987654321987654321L};
        for (long v : seeds) {
            for (int m : new int[] {1, 2, 29, 30}) {
                NameHall x = Check.hallOf("HN05P09b");
                x.seed(v);
                x.days(m);
                BigInteger want = BigInteger.valueOf(v);
                for (int i = 0; i < m; i++) {
                    want = want.multiply(BigInteger.valueOf(FACTOR)).add(BigInteger.valueOf(STEP));
                }
                due("from " + v + ", " + m + " days", x.seed(0), want.longValue());
            }
        }
    }

    private static void daysRange() {
        Check.sentence("DAYS by THE SEED: m times (1 to 30)");
        NameHall x = Check.hallOf("HP09a");
        Check.range("days", x::days, 1, 30, OUTSIDE);
        for (int m = 1; m <= 30; m++) {
            due("as many hours as days, " + m, x.days(m), Math.min(m, 10));
        }
        Check.sentence("`int days(int m)`: DAYS. OUTSIDE: m.");
        x.seed(77);
        due("none", x.days(0), OUTSIDE);
        due("too many", x.days(31), OUTSIDE);
        due("the seed stays", x.seed(0), 77);
    }

    /** The seed that becomes this number on the next day. */
    private static long seedAhead(long next) {
        long inverse = 1;
        for (int i = 0; i < 70; i++) {
            inverse *= 2 - FACTOR * inverse;
        }
        return (next - STEP) * inverse;
    }

    private static NameHall worn() {
        NameHall x = Check.hallOf("HN25N05N15N15P09pP09pP09gP09mP09p");
        x.take(0, 0);
        x.take(2, 2);
        return x;
    }

    /** The same by the calls themselves: what they refuse is left out. */
    private static int dayByActs(NameHall x, int chance) {
        if (chance / 5 <= 3) {
            x.take(chance % 5, chance / 5);
        } else if (chance / 5 == 5) {
            x.hang(chance % 5);
        }
        return x.hour();
    }

    private static void everyChance() {
        Check.sentence("that by 5 (down) 0 to 3 that NAME, 4 nothing, 5 HUNG, what is left by 5 the PERSON: TAKEN, HUNG, if there are such ones and it can be; then AN HOUR:");
        // 0 wears the twin, 2 a half and is nobody by it; 1, 3 and 4 wear none: four are nobody if nothing is done
        int[] nobodies = {
            4, 3, 4, 4, 3,
            4, 3, 4, 4, 3,
            4, 4, 4, 4, 4,
            4, 2, 4, 2, 2,
            4, 4, 4, 4, 4,
            5, 4, 4, 4, 4};
        for (int chance = 0; chance < 30; chance++) {
            NameHall x = worn();
            x.seed(seedAhead((long) chance << 33));
            due("chance " + chance, x.days(1), nobodies[chance]);
            due("by acts, chance " + chance, dayByActs(worn(), chance), nobodies[chance]);
        }
        NameHall y = worn();
        y.take(3, 3);
        y.seed(seedAhead(27L << 33));
        due("a half hung, the other is nobody, too", y.days(1), 4);
    }

    private static void upperBits() {
        Check.sentence("its upper 31 bits by 30, what is left");
        long[] uppers = {0, 1, 29, 30, 31, 59, 60, 0x3fffffffL, 0x40000000L, 0x7ffffffeL, 0x7fffffffL};
        long[] lowers = {0, 1, 0x1ffffffffL, 0x100000000L};
        for (long upper : uppers) {
            for (long lower : lowers) {
                NameHall x = worn();
                x.seed(seedAhead(upper << 33 | lower));
                due("upper " + upper + ", lower " + lower, x.days(1), dayByActs(worn(), (int) (upper % 30)));
                due("the seed", x.seed(0), upper << 33 | lower);
            }
        }
    }

    private static void noSuchOnes() {
        Check.sentence("TAKEN, HUNG, if there are such ones and it can be; then AN HOUR");
        for (int chance = 0; chance < 30; chance++) {
            NameHall x = Check.hallOf("HN05P09pP09a");
            x.seed(seedAhead((long) chance << 33));
            due("one name, two people, chance " + chance, x.days(1), chance == 0 ? 1 : 2);
            NameHall y = Check.hallOf("HN05P09pP09a");
            y.take(0, 0);
            y.seed(seedAhead((long) chance << 33));
            due("worn, chance " + chance, y.days(1), chance == 25 ? 2 : 1);
            NameHall z = new NameHall();
            z.seed(seedAhead((long) chance << 33));
            due("nothing there, chance " + chance, z.days(1), 0);
        }
        NameHall gone = Check.hallOf("HN05N05P09pP09p");
        gone.take(0, 0);
        gone.run(0);
        for (int chance = 0; chance < 10; chance++) {
            gone.seed(seedAhead((long) chance << 33));
            due("one of each is gone, chance " + chance, gone.days(1), chance == 6 ? 0 : 1);
        }
    }

    private static void daysByActs() {
        Check.sentence("what all have WAITED more at last.");
        for (int start = 0; start < 40; start++) {
            NameHall x = Check.hallOf("HN25N35N15N15P09pP29pP05gP09mP39p");
            NameHall y = Check.hallOf("HN25N35N15N15P09pP29pP05gP09mP39p");
            Check.hours(x, start % 5);
            Check.hours(y, start % 5);
            int m = start % 30 + 1;
            x.seed(start * 1000003L);
            long v = start * 1000003L;
            int want = -y.count(6);
            for (int day = 0; day < m; day++) {
                v = v * FACTOR + STEP;
                dayByActs(y, (int) ((v >>> 33) % 30));
            }
            due("by acts, " + m + " days from " + start, x.days(m), want + y.count(6));
        }
    }

    private static void daysGoOnFromNow() {
        Check.sentence("what all have WAITED more at last.");
        NameHall x = Check.hallOf("HP09aP24a");
        due("from the first hour", x.days(30), 13);
        Check.hours(x, 4);
        due("from the fourth", x.days(30), 7);
        due("what was WAITED before is not told again", x.days(1), 2);
        Check.hours(x, 5);
        due("at the last hour", x.days(30), 1);
        x.hour();
        due("behind the last hour", x.days(30), 0);
        NameHall y = Check.hallOf("HN35P09b");
        y.take(0, 0);
        Check.hours(y, 2);
        y.seed(seedAhead(20L << 33));
        due("the third hour of a heavy one", y.days(1), 0);
        y.hour();
        y.seed(seedAhead(20L << 33));
        due("behind it", y.days(1), 1);
        for (int worn = 0; worn <= 2; worn++) {
            NameHall z = Check.hallOf("HN35P09bP09a");
            z.take(0, 0);
            Check.hours(z, worn);
            for (int m = 1; m <= 4; m++) {
                z.seed(seedOfNothing(4));
                // the second one is nobody each day, the first one from the day on that follows the third hour
                due("a heavy one worn for " + worn + ", " + m + " days", z.days(m), m + Math.max(0, m - (3 - worn)));
            }
        }
    }

    /** A seed by which nothing is done on so many days. */
    private static long seedOfNothing(int days) {
        for (long start = 0; ; start++) {
            long v = start;
            int nothing = 0;
            for (int day = 0; day < days; day++) {
                v = v * FACTOR + STEP;
                nothing += (v >>> 33) % 30 / 5 == 4 ? 1 : 0;
            }
            if (nothing == days) {
                return start;
            }
        }
    }

    private static NameHall inTheMiddle(int m) {
        NameHall x = worn();
        x.keep(0);
        x.take(1, 0);
        x.hour();
        x.run(1);
        x.keep(1);
        x.see(0, 3);
        x.deed(3, 3);
        if (m > 0) {
            x.days(m);
        }
        x.seed(5);
        return x;
    }

    private static void onlyTheSeedChanges() {
        Check.sentence("(Nothing changes but THE SEED.)");
        String was = Look.deep(() -> inTheMiddle(0));
        Check.same("a day", Look.deep(() -> inTheMiddle(1)), was);
        Check.same("thirty days", Look.deep(() -> inTheMiddle(30)), was);
    }
}
