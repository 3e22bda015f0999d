/** The boundaries of SEEN, DEEDS and WHO: promises 18 to 21. */
public final class CluesEdgesTest {
    private static final int UNKNOWN = Check.UNKNOWN, OUTSIDE = Check.OUTSIDE, FULL = Check.FULL;

    public static void main(String[] args) {
        sixOfBoth();
        seeRefusals();
        deedRefusals();
        forget();
        whoWithoutDeeds();
        whoNeedsAtEachHour();
        whoWasSeen();
        whoOfEachNameForItself();
        whoIsGone();
        whoOfAGoneName();
        notThereAnyMore();
        stayBesideActs();
        whoRefusals();
        Check.end("CluesEdgesTest");
    }

    private static void due(String what, long got, long want) {
        Check.due(what, got, want);
    }

    private static void sixOfBoth() {
        Check.sentence("6 of both together at most, none at first");
        for (int deeds = 0; deeds <= 6; deeds++) {
            NameHall x = Check.hallOf("HN05N06P09dP09d");
            due("none", x.count(8), 0);
            for (int i = 1; i <= 6; i++) {
                int answer = i <= deeds ? x.deed(i % 2, i) : x.see(i % 2, i);
                due(deeds + " deeds, the clue " + i, answer, i);
                due("together", x.count(8), i);
            }
            due("a seventh, seen", x.see(0, 0), FULL);
            due("a seventh, a deed", x.deed(0, 0), FULL);
            due("six", x.count(8), 6);
            due("all forgotten", x.forget(), 6);
            due("room again", x.see(0, 0), 1);
            due("room again", x.deed(0, 0), 2);
        }
    }

    private static void seeRefusals() {
        Check.sentence("SEEN: how many there are (with DEEDS). UNKNOWN; OUTSIDE: h; FULL: 6.");
        NameHall x = Check.hallOf("HN05P33bP33b");
        due("the first hour", x.see(0, 0), 1);
        due("the last hour", x.see(1, 9), 2);
        due("the same twice", x.see(1, 9), 3);
        due("unknown, outside", x.see(2, 10), UNKNOWN);
        due("outside", x.see(1, 10), OUTSIDE);
        due("outside", x.see(1, -1), OUTSIDE);
        due("with deeds", x.deed(0, 0), 4);
        x.see(0, 1);
        due("the sixth", x.see(0, 2), 6);
        due("full", x.see(0, 3), FULL);
        due("unknown, outside, full", x.see(2, 10), UNKNOWN);
        due("unknown, full", x.see(-1, 0), UNKNOWN);
        due("outside, full", x.see(0, 10), OUTSIDE);
        due("outside, full", x.see(0, -1), OUTSIDE);
        due("six", x.count(8), 6);
    }

    private static void deedRefusals() {
        Check.sentence("DEEDS: how many there are (with SEEN). UNKNOWN; OUTSIDE: h; FULL: 6.");
        NameHall x = Check.hallOf("HN05N06P33bP33bP33b");
        due("the first hour", x.deed(0, 0), 1);
        due("the last hour", x.deed(1, 9), 2);
        due("the same twice", x.deed(1, 9), 3);
        due("unknown, outside", x.deed(2, 10), UNKNOWN);
        due("outside", x.deed(1, 10), OUTSIDE);
        due("outside", x.deed(1, -1), OUTSIDE);
        due("with seen", x.see(2, 0), 4);
        x.deed(0, 1);
        due("the sixth", x.deed(0, 2), 6);
        due("full", x.deed(0, 3), FULL);
        due("unknown, outside, full", x.deed(2, 10), UNKNOWN);
        due("unknown, full", x.deed(-1, 0), UNKNOWN);
        due("outside, full", x.deed(0, 10), OUTSIDE);
        due("outside, full", x.deed(0, -1), OUTSIDE);
        due("six", x.count(8), 6);
    }

    private static void forget() {
        Check.sentence("There are no SEEN, no DEEDS: how many there were.");
        NameHall x = Check.hallOf("HN05P05bP59b");
        due("none", x.forget(), 0);
        due("none", new NameHall().forget(), 0);
        x.deed(0, 9);
        due("one needs one then", x.who(0), 2);
        due("one", x.forget(), 1);
        due("none any more", x.forget(), 0);
        due("nothing did it", x.who(0), 3);
        x.see(1, 9);
        x.forget();
        x.deed(0, 9);
        due("nobody was seen", x.who(0), 2);
        for (int h = 0; h <= 9; h++) {
            NameHall y = Check.hallOf("HN05N06P09dP09d");
            y.see(1, h);
            y.deed(1, h);
            due("ahead of it", y.who(1), 1);
            y.forget();
            due("no deeds of the one", y.who(1), 3);
            for (int other = 0; other <= 5; other++) {
                y.deed(0, (h + other) % 10);
            }
            due("nobody was seen at " + h, y.who(0), 3);
        }
    }

    private static void whoWithoutDeeds() {
        Check.sentence("WHO for a NAME: PEOPLE (bits) that may be the one who did all DEEDS of it: it FITS");
        NameHall x = Check.hallOf("HN01N02N03N04P00bP11cP22eP33iP99p");
        for (int n = 0; n < 4; n++) {
            due("name " + n, x.who(n), (1 << n) + 16);
        }
        x.see(0, 0);
        x.see(4, 9);
        due("seen, but there was no deed", x.who(0), 17);
        due("fits nobody", Check.hallOf("HN05P09aP09c").who(0), 0);
        due("nobody is there", Check.hallOf("HN05").who(0), 0);
        due("all five", Check.hallOf("HN05P09bP09bP09bP09bP09b").who(0), 31);
    }

    private static void whoNeedsAtEachHour() {
        Check.sentence("they NEED a NAME AT each of these HOURS");
        for (int a = 0; a <= 9; a++) {
            for (int b = a; b <= 9; b++) {
                for (int h = 0; h <= 9; h++) {
                    NameHall x = Check.hallOf("HN05P" + a + b + "b");
                    x.deed(0, h);
                    due("from " + a + " to " + b + ", a deed at " + h, x.who(0), a <= h && h <= b ? 1 : 0);
                }
            }
        }
        NameHall y = Check.hallOf("HN05P14bP13bP24b");
        y.deed(0, 1);
        due("at the one", y.who(0), 3);
        y.deed(0, 4);
        due("at both", y.who(0), 1);
        y.deed(0, 5);
        due("at none", y.who(0), 0);
        NameHall z = Check.hallOf("HN05P09b");
        for (int h = 0; h <= 5; h++) {
            z.deed(0, h + 4);
            due("six deeds", z.who(0), 1);
        }
    }

    private static void whoWasSeen() {
        Check.sentence("SEEN: that a PERSON was seen elsewhere AT an HOUR;");
        NameHall seen = Check.hallOf("HN05P09bP09b");
        seen.see(1, 9);
        seen.deed(0, 9);
        due("the one, not the other", seen.who(0), 1);
        Check.sentence("were not SEEN AT one of them");
        for (int h = 0; h <= 9; h++) {
            NameHall x = Check.hallOf("HN05P09bP09b");
            x.deed(0, 0);
            x.deed(0, 5);
            x.deed(0, 9);
            x.see(0, h);
            boolean isOneOfThem = h == 0 || h == 5 || h == 9;
            due("seen at " + h, x.who(0), isOneOfThem ? 2 : 3);
        }
        NameHall y = Check.hallOf("HN05P09bP09b");
        y.see(0, 7);
        due("seen ahead of the deed", y.who(0), 3);
        y.deed(0, 7);
        due("the deed comes later", y.who(0), 2);
        y.see(1, 7);
        due("both", y.who(0), 0);
    }

    private static void whoOfEachNameForItself() {
        Check.sentence("DEEDS: that a NAME did something AT an HOUR");
        NameHall x = Check.hallOf("HN05N06P03dP49d");
        x.deed(0, 3);
        x.deed(1, 4);
        due("the one", x.who(0), 1);
        due("the other", x.who(1), 2);
        x.see(0, 4);
        due("seen when the other did it", x.who(0), 1);
        x.see(1, 4);
        due("nobody", x.who(1), 0);
    }

    private static void whoIsGone() {
        Check.sentence("PEOPLE that are gone are not there).");
        NameHall x = Check.hallOf("HN05N06P09dP09dP09d");
        x.deed(1, 3);
        x.take(0, 0);
        x.run(0);
        due("of the name that is there", x.who(1), 6);
        due("of the name that is gone", x.who(0), 6);
        due("a gone one is seen all the same", x.see(0, 3), 2);
        due("a gone one does something all the same", x.deed(0, 3), 3);
        due("nothing else", x.who(0), 6);
        x.undo();
        due("back again, but seen", x.who(0), 6);
        x.forget();
        due("back again", x.who(0), 7);
    }

    private static void whoOfAGoneName() {
        Check.sentence("(WHO, RESTS of a NAME that is gone are as if it were not;");
        NameHall x = Check.hallOf("HN25P09bP05bP59bP09a");
        x.deed(0, 6);
        x.take(1, 0);
        x.run(1);
        due("its deeds are looked at", x.who(0), 5);
        x.deed(0, 4);
        due("its deeds are looked at", x.who(0), 1);
        x.see(0, 4);
        due("who was seen, too", x.who(0), 0);
    }

    private static void notThereAnyMore() {
        Check.sentence("(of PEOPLE, NAMES that there are not any more nothing is looked at)");
        NameHall x = Check.hallOf("HN05N06P09dP09d");
        x.see(1, 3);
        x.deed(1, 3);
        x.deed(0, 4);
        Check.remake(x, "HN05P44b");
        due("of those that there are", x.who(0), 1);
        due("they are not told of any more", x.deed(1, 3), UNKNOWN);
        due("they are not told of any more", x.see(1, 3), UNKNOWN);
        due("they stay", x.count(8), 3);
        Check.remake(x, "H");
        due("without anything they stay", x.count(8), 3);
        x.see(0, 0);
        due("nobody to be seen", x.count(8), 3);
        Check.remake(x, "HN05N06P09dP09d");
        due("there are such ones again", x.who(1), 1);
        due("there are such ones again", x.who(0), 3);
        x.see(0, 0);
        x.see(0, 0);
        due("the sixth", x.see(0, 0), 6);
        Check.remake(x, "HN05P09b");
        due("those that are not looked at are counted", x.see(0, 0), FULL);
        due("all of them", x.forget(), 6);
    }

    private static void stayBesideActs() {
        Check.sentence("SEEN, DEEDS, THE SEED stay");
        NameHall x = Check.hallOf("HN05P09bP09b");
        x.keep(0);
        x.hour();
        x.deed(0, 3);
        x.see(1, 3);
        x.undo();
        due("undoing is for acts", x.count(8), 2);
        x.again(0);
        due("slots keep no deeds", x.count(8), 2);
        due("who", x.who(0), 1);
        due("they are no acts", x.count(7), 0);
    }

    private static void whoRefusals() {
        Check.sentence("`int who(int name)`: WHO, as bits. UNKNOWN.");
        NameHall x = Check.hallOf("HN05N06P09d");
        Check.range("who", x::who, 0, 1, UNKNOWN);
        Check.range("who", new NameHall()::who, 0, -1, UNKNOWN);
    }
}
