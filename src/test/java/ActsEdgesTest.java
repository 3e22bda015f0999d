import java.util.function.Consumer;

/** The boundaries of what is worn, taken, hung up, run off with and undone: promises 6 to 12. */
public final class ActsEdgesTest {
    private static final int UNKNOWN = Check.UNKNOWN, OUTSIDE = Check.OUTSIDE, STATE = Check.STATE, NONE = Check.NONE;
    private static final String[] NAMES = {"", "N01", "N01N02", "N01N02N03", "N01N02N03N04"};
    private static final String[] PEOPLE = {"", "P09p", "P09pP09p", "P09pP09pP09p", "P09pP09pP09pP09p", "P09pP09pP09pP09pP09p"};

    public static void main(String[] args) {
        whichNamesThereAre();
        whichPeopleThereAre();
        nameWhats();
        personWhats();
        room();
        somebody();
        halves();
        halvesOfGoneOnes();
        takenByOneThatWearsNone();
        takenIfItFits();
        takenIfNotRunOffWith();
        takeRefusals();
        hung();
        hungRefusals();
        waitsInItsHours();
        hoursGoOn();
        wornLonger();
        heavyThreeHours();
        heavyRunning();
        heavyIsSomebodyInItsThirdHour();
        runOff();
        othersWearItOn();
        runRefusals();
        fourteenActs();
        actsAreARing();
        everyActIsOne();
        undoneAsItWas();
        undoRefusals();
        Check.end("ActsEdgesTest");
    }

    private static void due(String what, long got, long want) {
        Check.due(what, got, want);
    }

    private static void whichNamesThereAre() {
        Check.sentence("UNKNOWN (there is no such NAME, PERSON, SLOT)");
        for (int names = 0; names <= 4; names++) {
            String hall = "H" + NAMES[names] + "P09pP09p";
            int last = names - 1;
            Check.range("name of " + names, v -> Check.hallOf(hall).name(v, 0), 0, last, UNKNOWN);
            Check.range("take of " + names, v -> Check.hallOf(hall).take(0, v), 0, last, UNKNOWN);
            Check.range("deed of " + names, v -> Check.hallOf(hall).deed(v, 0), 0, last, UNKNOWN);
            Check.range("who of " + names, v -> Check.hallOf(hall).who(v), 0, last, UNKNOWN);
            Check.range("share of " + names, v -> Check.hallOf(hall).share(v, 0, true), 0, last, UNKNOWN);
            Check.range("rests of " + names, v -> Check.hallOf(hall).rests(0, 1, v, 0), 0, last, UNKNOWN);
        }
    }

    /** All of them wear a name or, for the fifth, none, so that it can be told what is refused for the number alone. */
    private static NameHall allWear(int people) {
        NameHall x = Check.hallOf("HN21N22N23" + PEOPLE[people]);
        for (int p = 0; p < people; p++) {
            x.take(p, p / 2);
        }
        return x;
    }

    private static void whichPeopleThereAre() {
        Check.sentence("UNKNOWN (there is no such NAME, PERSON, SLOT)");
        for (int people = 0; people <= 5; people++) {
            int last = people - 1;
            String hall = "HN01" + PEOPLE[people];
            int n = people;
            Check.range("person of " + people, v -> Check.hallOf(hall).person(v, 0), 0, last, UNKNOWN);
            Check.range("take of " + people, v -> Check.hallOf(hall).take(v, 0), 0, last, UNKNOWN);
            Check.range("hang of " + people, v -> allWear(n).hang(v), 0, last, UNKNOWN);
            Check.range("run of " + people, v -> allWear(n).run(v), 0, last, UNKNOWN);
            Check.range("see of " + people, v -> Check.hallOf(hall).see(v, 0), 0, last, UNKNOWN);
            Check.range("letter of " + people, v -> Check.hallOf(hall).letter(v, 0, true), 0, last, UNKNOWN);
            if (people >= 2) {
                Check.range("rests, one of " + people, v -> Check.hallOf(hall).rests(v, v == 0 ? 1 : 0, 0, 0), 0, last, UNKNOWN);
                Check.range("rests, other of " + people, v -> Check.hallOf(hall).rests(v == 0 ? 1 : 0, v, 0, 0), 0, last, UNKNOWN);
            }
        }
    }

    private static void nameWhats() {
        Check.sentence("Of a NAME its KIND (what = 0), WORTH (1), who wears it (2: bits), 1 if it is gone (3). UNKNOWN; OUTSIDE.");
        Check.range("what", v -> Check.hallOf("HN05").name(0, v), 0, 3, OUTSIDE);
        NameHall x = Check.hallOf("HN09N31N25N12P09pP09pP09pP09pP09p");
        due("the least kind, the greatest worth", x.name(0, 0) * 10 + x.name(0, 1), 9);
        due("the greatest kind, the least worth", x.name(1, 0) * 10 + x.name(1, 1), 31);
        due("nobody wears it", x.name(2, 2), 0);
        x.take(4, 2);
        due("the last person", x.name(2, 2), 16);
        x.take(0, 2);
        due("the first and the last", x.name(2, 2), 17);
        x.hang(4);
        due("the first", x.name(2, 2), 1);
        due("not gone", x.name(2, 3), 0);
        x.run(0);
        due("gone", x.name(2, 3), 1);
        due("nobody wears it any more", x.name(2, 2), 0);
        due("the kind of a gone one", x.name(2, 0), 2);
        due("the worth of a gone one", x.name(2, 1), 5);
        due("others are not gone", x.name(0, 3) + x.name(1, 3) + x.name(3, 3), 0);
        due("unknown is named first", x.name(4, 4), UNKNOWN);
        due("unknown is named first", x.name(-1, -1), UNKNOWN);
    }

    private static void personWhats() {
        Check.sentence("Of a PERSON the first HOUR in which it NEEDS one (what = 0), the last (1)");
        Check.range("what", v -> Check.hallOf("HP00a").person(0, v), 0, 7, OUTSIDE);
        NameHall x = Check.hallOf("HN01N02N03N34P09pP99iP00a");
        due("all hours", 10 * x.person(0, 0) + x.person(0, 1), 9);
        due("the last hour", 10 * x.person(1, 0) + x.person(1, 1), 99);
        due("the first hour", 10 * x.person(2, 0) + x.person(2, 1), 0);
        Check.sentence("what FITS it (2: bits of NAMES that there are, as told)");
        due("all", x.person(0, 2), 15);
        due("the last", x.person(1, 2), 8);
        due("none", x.person(2, 2), 0);
        Check.sentence("what it wears (3; NONE), for how many HOURS (4), how many it WAITED (5), 1 if it is SOMEBODY (6), 1 if it is gone (7). UNKNOWN; OUTSIDE.");
        for (int p = 0; p < 3; p++) {
            due("wears none", x.person(p, 3), NONE);
            due("for none", x.person(p, 4) + x.person(p, 5) + x.person(p, 6) + x.person(p, 7), 0);
        }
        x.take(0, 0);
        due("the first name", x.person(0, 3), 0);
        x.take(1, 3);
        due("the last name", x.person(1, 3), 3);
        due("for none yet", x.person(1, 4), 0);
        due("somebody", x.person(1, 6), 1);
        x.hour();
        due("for one", x.person(1, 4), 1);
        due("waited", x.person(2, 5), 1);
        due("waited none", x.person(0, 5) + x.person(1, 5), 0);
        x.run(1);
        due("gone", x.person(1, 7), 1);
        due("as told", x.person(1, 2), 8);
        due("the name of another is gone", x.person(0, 2), 15);
        due("wears none", x.person(1, 3), NONE);
        due("for none", x.person(1, 4), 0);
        due("nobody", x.person(1, 6), 0);
        due("unknown is named first", x.person(3, 8), UNKNOWN);
        due("unknown is named first", x.person(-1, -1), UNKNOWN);
    }

    private static void room() {
        Check.sentence("ROOM of a NAME: 2 for a TWIN, else 1; as many can wear it at once.");
        for (int kind = 0; kind <= 3; kind++) {
            NameHall x = Check.hallOf("HN" + kind + "5P09bP09bP09b");
            int room = kind == 2 ? 2 : 1;
            for (int p = 0; p < 3; p++) {
                due("kind " + kind + ", one more", x.take(p, 0), p < room ? p + 1 : STATE);
            }
            due("who wears it", x.name(0, 2), (1 << room) - 1);
            x.hang(0);
            due("room again", x.take(2, 0), room);
            due("no more", x.take(0, 0), STATE);
        }
    }

    private static void somebody() {
        Check.sentence("One that wears a NAME is SOMEBODY;");
        for (int kind = 0; kind <= 3; kind++) {
            NameHall x = Check.hallOf("HN" + kind + "5P99b");
            due("wears none", x.person(0, 6), 0);
            x.take(0, 0);
            due("kind " + kind, x.person(0, 6), kind == 1 ? 0 : 1);
            due("kind " + kind, x.count(5), kind == 1 ? 0 : 1);
            x.hang(0);
            due("no more", x.person(0, 6), 0);
        }
        NameHall y = Check.hallOf("HN25P09bP09b");
        y.take(0, 0);
        y.take(1, 0);
        due("both that wear a twin", y.count(5), 3);
    }

    private static void halves() {
        Check.sentence("one that wears a HALF only if somebody wears another HALF.");
        NameHall x = Check.hallOf("HN15N16N17N05P09pP09pP09p");
        x.take(0, 0);
        due("alone", x.count(5), 0);
        x.take(1, 3);
        due("a plain one is no half", x.count(5), 2);
        x.hang(1);
        x.take(1, 2);
        due("another half", x.count(5), 3);
        x.take(2, 1);
        due("three halves", x.count(5), 7);
        x.hang(0);
        due("two of them", x.count(5), 6);
        x.hang(2);
        due("alone again", x.count(5), 0);
        due("alone again", x.person(1, 6), 0);
        NameHall y = Check.hallOf("HN15N25N35P09pP09pP09pP09p");
        y.take(0, 0);
        y.take(1, 1);
        y.take(2, 1);
        y.take(3, 2);
        due("twins and heavy ones are no halves", y.count(5), 14);
        NameHall z = Check.hallOf("HN15N15P00dP99d");
        z.take(0, 0);
        z.take(1, 1);
        due("whether they need one or not", z.count(5), 3);
    }

    private static void halvesOfGoneOnes() {
        Check.sentence("one that wears a HALF only if somebody wears another HALF.");
        NameHall x = Check.hallOf("HN15N15P09dP09dP09d");
        x.take(0, 0);
        x.take(1, 1);
        due("both", x.hour(), 1);
        x.run(1);
        due("the other half is gone", x.person(0, 6), 0);
        due("the other half is gone", x.hour(), 2);
        x.undo();
        x.undo();
        due("both again", x.count(5), 3);
    }

    private static void takenByOneThatWearsNone() {
        Check.sentence("TAKEN: a PERSON that wears none takes a NAME");
        NameHall x = Check.hallOf("HN05N25P99d");
        due("ahead of the hours in which it needs one", x.take(0, 1), 1);
        due("the same", x.take(0, 1), STATE);
        due("another", x.take(0, 0), STATE);
        due("still one", x.name(1, 2) * 10 + x.name(0, 2), 10);
        x.hang(0);
        due("another now", x.take(0, 0), 1);
        x.hang(0);
        Check.hours(x, 10);
        due("behind its hours", x.take(0, 0), 1);
        due("for no hours yet", x.person(0, 4), 0);
    }

    private static void takenIfItFits() {
        Check.sentence("takes a NAME that FITS it");
        for (int m = 0; m < 16; m++) {
            NameHall x = Check.hallOf("HN01N02N03N04P09" + (char) ('a' + m));
            for (int n = 0; n < 4; n++) {
                boolean can = (m >> n) % 2 == 1;
                due("fits " + m + ", name " + n, x.take(0, n), can ? 1 : STATE);
                if (can) {
                    x.hang(0);
                }
            }
        }
    }

    private static void takenIfNotRunOffWith() {
        Check.sentence("of which there is ROOM (and that was not run off with).");
        NameHall x = Check.hallOf("HN25N05P09dP09dP09d");
        x.take(0, 0);
        due("one", x.run(0), 0);
        due("a twin that was run off with", x.take(1, 0), STATE);
        due("another", x.take(1, 1), 1);
        due("no room", x.take(2, 1), STATE);
        due("the one that is gone", x.take(0, 1), STATE);
        x.hang(1);
        due("the one that is gone, with room", x.take(0, 1), STATE);
        x.undo();
        x.undo();
        x.undo();
        due("back again", x.person(0, 3), 0);
        due("a twin that is back", x.take(1, 0), 2);
    }

    private static void takeRefusals() {
        Check.sentence("TAKEN: how many wear it. UNKNOWN: person, name; STATE: it can not be.");
        NameHall x = Check.hallOf("HN25P09bP09bP09bP09a");
        due("one", x.take(2, 0), 1);
        due("two", x.take(0, 0), 2);
        due("no such person", x.take(4, 0), UNKNOWN);
        due("no such name", x.take(1, 1), UNKNOWN);
        due("neither", x.take(-1, -1), UNKNOWN);
        due("one that wears one, no such name", x.take(0, 1), UNKNOWN);
        due("one that wears one, no such name", x.take(0, -1), UNKNOWN);
        due("no room", x.take(1, 0), STATE);
        due("fits not", x.take(3, 0), STATE);
        x.run(0);
        due("a gone one, no such name", x.take(0, 1), UNKNOWN);
        due("a gone one", x.take(0, 0), STATE);
        due("acts", x.count(7), 3);
    }

    private static void hung() {
        Check.sentence("HUNG: one that wears a NAME does so no more.");
        NameHall x = Check.hallOf("HN01N02N03N25P09pP09p");
        for (int n = 0; n < 4; n++) {
            x.take(0, n);
            x.hour();
            due("what it wore", x.hang(0), n);
            due("wears", x.person(0, 3), NONE);
            due("for how long", x.person(0, 4), 0);
            due("who wears it", x.name(n, 2), 0);
        }
        x.take(0, 3);
        x.take(1, 3);
        x.hang(0);
        due("the other twin wears it on", x.name(3, 2), 2);
    }

    private static void hungRefusals() {
        Check.sentence("HUNG: what it wore. UNKNOWN; STATE: it wears none.");
        NameHall x = Check.hallOf("HN05P09bP09b");
        due("wears none", x.hang(0), STATE);
        x.take(0, 0);
        due("the other wears none", x.hang(1), STATE);
        due("wears one", x.hang(0), 0);
        due("wears none any more", x.hang(0), STATE);
        x.take(1, 0);
        x.run(1);
        due("a gone one", x.hang(1), STATE);
        due("acts", x.count(7), 4);
        NameHall y = Check.hallOf("HN35P09b");
        y.take(0, 0);
        Check.hours(y, 3);
        due("it was hung by the hour", y.hang(0), STATE);
    }

    private static void waitsInItsHours() {
        Check.sentence("each PERSON that NEEDS a NAME now (THE HOUR is a to b) and is not SOMEBODY has WAITED one HOUR more;");
        for (int a = 0; a <= 9; a++) {
            for (int b = a; b <= 9; b++) {
                NameHall x = Check.hallOf("HN05P" + a + b + "bP" + a + b + "b");
                x.take(1, 0);
                int waited = 0;
                for (int h = 0; h <= 11; h++) {
                    boolean needs = a <= h && h <= b;
                    due("needs at " + h, x.count(4), needs ? 3 : 0);
                    due("from " + a + " to " + b + ", hour " + h, x.hour(), needs ? 1 : 0);
                    waited += needs ? 1 : 0;
                    due("waited", x.person(0, 5), waited);
                    due("waited", x.count(6), waited);
                }
                due("somebody waits not", x.person(1, 5), 0);
            }
        }
    }

    private static void hoursGoOn() {
        Check.sentence("AN HOUR: how many were nobody in it that NEEDED a NAME.");
        NameHall x = Check.hallOf("HP09aP08aP07aP06aP05a");
        int[] nobodies = {5, 5, 5, 5, 5, 5, 4, 3, 2, 1, 0, 0};
        for (int h = 0; h < nobodies.length; h++) {
            due("at " + h, x.hour(), nobodies[h]);
        }
        Check.sentence("THE HOUR is one more.");
        Check.hours(x, 400);
        due("far behind the last hour", x.count(3), 412);
        due("nobody needs one any more", x.count(4), 0);
        due("waited", x.count(6), 40);
        NameHall y = new NameHall();
        due("without a hall", y.hour(), 0);
        due("without a hall", y.count(3), 1);
    }

    private static void wornLonger() {
        Check.sentence("each that wears a NAME has worn it one HOUR longer;");
        for (int kind = 0; kind <= 2; kind++) {
            NameHall x = Check.hallOf("HN" + kind + "5P00bP99b");
            x.take(0, 0);
            for (int h = 1; h <= 20; h++) {
                x.hour();
                due("kind " + kind, x.person(0, 4), h);
                due("wears none, for none", x.person(1, 4), 0);
            }
            due("it is not hung", x.person(0, 3), 0);
        }
    }

    private static void heavyThreeHours() {
        Check.sentence("a HEAVY one that was worn 3 HOURS running is HUNG;");
        for (int from = 0; from <= 12; from++) {
            NameHall x = Check.hallOf("HN05N35P09pP09p");
            x.take(0, 0);
            Check.hours(x, from);
            x.take(1, 1);
            x.hour();
            due("from " + from + ", worn once", x.person(1, 3), 1);
            x.hour();
            due("worn twice", x.person(1, 3), 1);
            due("worn twice", x.person(1, 4), 2);
            x.hour();
            due("worn three times", x.person(1, 3), NONE);
            due("for none", x.person(1, 4), 0);
            due("who wears it", x.name(1, 2), 0);
            due("it is not gone", x.name(1, 3), 0);
            due("the plain one is worn on", x.person(0, 3), 0);
            due("one act for each", x.count(7), Math.min(14, from + 5));
            due("it can be taken at once", x.take(1, 1), 1);
        }
    }

    private static void heavyRunning() {
        Check.sentence("a HEAVY one that was worn 3 HOURS running is HUNG;");
        NameHall x = Check.hallOf("HN35N35P09dP09d");
        x.take(0, 0);
        Check.hours(x, 2);
        x.hang(0);
        x.take(0, 0);
        Check.hours(x, 2);
        due("not running", x.person(0, 3), 0);
        x.hang(0);
        x.take(1, 0);
        Check.hours(x, 2);
        due("by another", x.person(1, 3), 0);
        x.take(0, 1);
        x.hour();
        due("the one", x.person(1, 3), NONE);
        due("the other, which was taken later", x.person(0, 3), 1);
        x.undo();
        due("undone", x.person(1, 4) * 10 + x.person(0, 4), 20);
        Check.hours(x, 3);
        due("both", x.count(5), 0);
    }

    private static void heavyIsSomebodyInItsThirdHour() {
        Check.sentence("AN HOUR: each PERSON that NEEDS a NAME now");
        NameHall x = Check.hallOf("HN35P09b");
        x.take(0, 0);
        due("first", x.hour(), 0);
        due("second", x.hour(), 0);
        due("third", x.hour(), 0);
        due("the hour behind it", x.hour(), 1);
        due("waited", x.person(0, 5), 1);
    }

    private static void runOff() {
        Check.sentence("RUN OFF: a PERSON that wears a NAME goes away with it for good: it is gone, the PERSON, too (it NEEDS, wears nothing any more, nothing FITS it)");
        NameHall x = Check.hallOf("HN05N06P09dP09d");
        x.take(0, 0);
        x.hour();
        due("what it wore", x.run(0), 0);
        due("gone", x.name(0, 3) * 10 + x.person(0, 7), 11);
        due("needs nothing", x.count(4), 2);
        due("is nobody", x.count(5), 0);
        due("wears nothing", x.name(0, 2), 0);
        due("nothing fits it", x.take(0, 1), STATE);
        due("waits no more", x.hour(), 1);
        due("waited", x.person(0, 5), 0);
        due("another takes what is left", x.take(1, 1), 1);
        due("with the last one, too", x.run(1), 1);
        due("nobody is left", x.hour(), 0);
        Check.hours(x, 3);
        due("for good", x.name(0, 3) + x.name(1, 3) + x.person(0, 7) + x.person(1, 7), 4);
        due("names and people are told on", x.count(1) * 10 + x.count(2), 22);
    }

    private static void othersWearItOn() {
        Check.sentence("others that wear that NAME do so on.");
        NameHall x = Check.hallOf("HN25P09bP09bP09b");
        x.take(0, 0);
        x.hour();
        x.take(1, 0);
        x.run(0);
        due("wears it on", x.person(1, 3), 0);
        due("somebody", x.person(1, 6), 1);
        due("who wears it", x.name(0, 2), 2);
        due("gone all the same", x.name(0, 3), 1);
        x.hour();
        due("for one hour", x.person(1, 4), 1);
        due("nobody else takes it", x.take(2, 0), STATE);
        due("hung", x.hang(1), 0);
        due("and not taken again", x.take(1, 0), STATE);
        x.undo();
        due("run off with once more", x.run(1), 0);
        due("both", x.person(0, 7) + x.person(1, 7), 2);
        x.undo();
        due("one of them undone, the name is gone still", x.name(0, 3), 1);
    }

    private static void runRefusals() {
        Check.sentence("RUN OFF: what it wore. UNKNOWN; STATE: it wears none.");
        NameHall x = Check.hallOf("HN01N02N03N04P09pP09p");
        due("wears none", x.run(0), STATE);
        x.take(0, 3);
        due("the other wears none", x.run(1), STATE);
        due("the last name", x.run(0), 3);
        due("gone already", x.run(0), STATE);
        due("acts", x.count(7), 2);
        x.take(1, 0);
        x.hang(1);
        due("wears none any more", x.run(1), STATE);
    }

    private static void fourteenActs() {
        Check.sentence("are a row (14 at most; of more the first one is forgotten); the last one can be undone.");
        for (int acts = 0; acts <= 44; acts++) {
            NameHall x = Check.hallOf("HP09a");
            Check.hours(x, acts);
            int row = Math.min(acts, 14);
            due("acts of " + acts, x.count(7), row);
            for (int left = row - 1; left >= 0; left--) {
                due("undone, left", x.undo(), left);
                due("the hour", x.count(3), acts - row + left);
                due("waited", x.count(6), Math.min(10, acts - row + left));
            }
            due("no more", x.undo(), STATE);
            due("the first are forgotten", x.count(3), acts - row);
        }
    }

    private static void actsAreARing() {
        Check.sentence("are a row (14 at most; of more the first one is forgotten); the last one can be undone.");
        for (int undone = 0; undone <= 14; undone++) {
            for (int more = 0; more <= 16; more++) {
                NameHall x = new NameHall();
                Check.hours(x, 17);
                for (int i = 0; i < undone; i++) {
                    x.undo();
                }
                Check.hours(x, more);
                int row = Math.min(14, 14 - undone + more);
                int hour = 17 - undone + more;
                due("acts", x.count(7), row);
                due("the hour", x.count(3), hour);
                for (int left = row - 1; left >= 0; left--) {
                    due("undone", 100 * x.undo() + x.count(3), 100 * left + hour - row + left);
                }
                due("no more", x.undo(), STATE);
            }
        }
    }

    private static void everyActIsOne() {
        Check.sentence("ACTS (TAKEN, HUNG, HOURS, RUN OFF) are a row");
        NameHall x = Check.hallOf("HN05N06P09dP09d");
        x.take(0, 0);
        due("taken", x.count(7), 1);
        x.hang(0);
        due("hung", x.count(7), 2);
        x.hour();
        due("an hour", x.count(7), 3);
        x.take(1, 1);
        x.run(1);
        due("run off", x.count(7), 5);
        Check.hours(x, 9);
        due("fourteen", x.count(7), 14);
        x.take(0, 0);
        due("the fifteenth", x.count(7), 14);
        x.hang(0);
        due("the sixteenth", x.count(7), 14);
        x.take(0, 0);
        x.run(0);
        due("the eighteenth", x.count(7), 14);
        for (int i = 0; i < 14; i++) {
            x.undo();
        }
        due("four are forgotten: taken, hung, an hour, taken", x.count(3), 1);
        due("wears what it took then", x.person(1, 3), 1);
        due("not yet gone", x.person(1, 7), 0);
    }

    private static NameHall inTheMiddle() {
        NameHall x = Check.hallOf("HN25N35N15N05P09pP09pP39pP09p");
        x.keep(1);
        x.take(0, 0);
        x.take(1, 1);
        Check.hours(x, 2);
        x.take(2, 2);
        x.take(3, 0);
        return x;
    }

    private static NameHall actedAndUndone(Consumer<NameHall> act) {
        NameHall x = inTheMiddle();
        act.accept(x);
        x.undo();
        return x;
    }

    private static void undoneAsItWas() {
        Check.sentence("The last ACT is undone: how many are left.");
        String was = Look.deep(ActsEdgesTest::inTheMiddle);
        Check.same("an hour", Look.deep(() -> actedAndUndone(x -> x.hour())), was);
        Check.same("hung", Look.deep(() -> actedAndUndone(x -> x.hang(1))), was);
        Check.same("run off", Look.deep(() -> actedAndUndone(x -> x.run(1))), was);
        Check.same("run off with a twin", Look.deep(() -> actedAndUndone(x -> x.run(0))), was);
        Check.same("taken", Look.deep(() -> actedAndUndone(x -> {
            x.hang(2);
            x.take(2, 3);
            x.undo();
        })), was);
    }

    private static void undoRefusals() {
        Check.sentence("The last ACT is undone: how many are left. STATE: there is none.");
        NameHall x = new NameHall();
        due("none", x.undo(), STATE);
        x.hour();
        due("one", x.undo(), 0);
        due("none any more", x.undo(), STATE);
        NameHall y = Check.hallOf("HN05P09b");
        y.take(0, 0);
        y.take(0, 0);
        y.hang(1);
        due("what was refused is no act", y.undo(), 0);
        due("undone", y.person(0, 3), NONE);
    }
}
