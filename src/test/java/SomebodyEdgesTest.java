/** The boundaries of MOST, WAITING, FIRST, FIRE and JUDGED: promises 13 to 17. */
public final class SomebodyEdgesTest {
    private static final int OUTSIDE = Check.OUTSIDE, NONE = Check.NONE;

    public static void main(String[] args) {
        hours();
        mostByRoom();
        mostByNeed();
        firstWay();
        mostOfAll();
        wornIsSetAside();
        goneIsNotThere();
        halvesAsPlain();
        waitingFromTo();
        waitingRefuses();
        first();
        fireSavesOnce();
        fireByWorth();
        fireFirstWay();
        fireWithoutHours();
        fireOfNothing();
        judgeHowMany();
        judgeFigures();
        judgeOrder();
        judgeThings();
        judgeEveryOne();
        judgePlaces();
        judgeSetsAside();
        judgeGone();
        nothingIsChanged();
        Check.end("SomebodyEdgesTest");
    }

    private static void due(String what, long got, long want) {
        Check.due(what, got, want);
    }

    private static void hours() {
        Check.sentence("AT an HOUR h (0 to 9)");
        NameHall x = Check.hallOf("HN05P09bP00bP99b");
        Check.range("most", h -> x.most(h, false), 0, 9, OUTSIDE);
        Check.range("most, the way", h -> x.most(h, true), 0, 9, OUTSIDE);
        Check.range("share", h -> x.share(0, h, true), 0, 9, OUTSIDE);
        Check.range("share, below", h -> x.share(0, h, false), 0, 9, OUTSIDE);
        Check.range("letter", h -> x.letter(0, h, true), 0, 9, OUTSIDE);
        Check.range("letter, below", h -> x.letter(0, h, false), 0, 9, OUTSIDE);
        Check.range("see", h -> Check.hallOf("HN05P09b").see(0, h), 0, 9, OUTSIDE);
        Check.range("deed", h -> Check.hallOf("HN05P09b").deed(0, h), 0, 9, OUTSIDE);
    }

    private static void mostByRoom() {
        Check.sentence("NAMES are given to PEOPLE that NEED one AT h, such as FIT, as many as there is ROOM");
        for (int kind = 0; kind <= 3; kind++) {
            int room = kind == 2 ? 2 : 1;
            String hall = "HN" + kind + "5";
            for (int people = 0; people <= 5; people++) {
                NameHall x = Check.hallOf(hall);
                due("kind " + kind + " for " + people, x.most(4, false), Math.min(room, people));
                hall += "P44b";
            }
        }
        due("two twins, five", Check.hallOf("HN25N25P09dP09dP09dP09dP09d").most(0, false), 4);
        due("the first one is left", Check.hallOf("HN25N25P09dP09dP09dP09dP09d").most(0, true), 1122);
        due("three twins, five", Check.hallOf("HN25N25N25P09pP09pP09pP09pP09p").most(0, true), 11223);
    }

    private static void mostByNeed() {
        Check.sentence("NAMES are given to PEOPLE that NEED one AT h, such as FIT, as many as there is ROOM");
        for (int a = 0; a <= 9; a++) {
            for (int b = a; b <= 9; b++) {
                NameHall x = Check.hallOf("HN05P" + a + b + "b");
                for (int h = 0; h <= 9; h++) {
                    due("from " + a + " to " + b + " at " + h, x.most(h, false), a <= h && h <= b ? 1 : 0);
                }
            }
        }
        NameHall y = Check.hallOf("HN05P09aP09c");
        due("fits none", y.most(0, false), 0);
        due("fits none", y.most(0, true), 0);
    }

    private static void firstWay() {
        Check.sentence("MOST that can be; of such ways the first (told by PEOPLE in order, 0: none, else the NAME and 1; the least as a number).");
        due("the first name", Check.hallOf("HN05N05N05N05P09p").most(0, true), 1);
        due("the last name", Check.hallOf("HN05N05N05N05P09i").most(0, true), 4);
        due("most goes ahead of the least", Check.hallOf("HN05N05P09dP09b").most(0, true), 21);
        due("the first is left without", Check.hallOf("HN05P09bP09b").most(0, true), 1);
        due("only the first can", Check.hallOf("HN05P09bP09a").most(0, true), 10);
        due("five figures", Check.hallOf("HN21N21N21N21P09iP09iP09eP09eP09b").most(0, true), 44331);
        due("a chain", Check.hallOf("HN05N05N05N05P09pP09bP09cP09e").most(0, true), 4123);
        due("a figure for one that needs none", Check.hallOf("HN05P09bP55b").most(0, true), 10);
    }

    private static void mostOfAll() {
        Check.sentence("MOST AT an HOUR: how many (way = false), the way (way = true). OUTSIDE: h.");
        due("nobody", new NameHall().most(0, false), 0);
        due("nobody", new NameHall().most(9, true), 0);
        due("no names", Check.hallOf("HP09pP09p").most(0, false), 0);
        due("no people", Check.hallOf("HN25").most(0, true), 0);
        due("all five", Check.hallOf("HN25N25N01P09pP09pP09pP09pP09p").most(9, false), 5);
        due("four of five", Check.hallOf("HN01N01N01N01P09pP09pP09pP09pP09p").most(9, false), 4);
        due("four of five", Check.hallOf("HN01N01N01N01P09pP09pP09pP09pP09p").most(9, true), 1234);
    }

    private static void wornIsSetAside() {
        Check.sentence("Who wears what now, HOURS it was worn are set aside;");
        NameHall x = Check.hallOf("HN05N36P09dP09bP55d");
        String was = asked(x);
        x.take(0, 0);
        Check.same("worn", asked(x), was);
        x.take(2, 1);
        x.hour();
        x.hour();
        Check.same("worn for hours", asked(x), was);
        Check.hours(x, 10);
        Check.same("the hour is nothing", asked(x), was);
    }

    private static String asked(NameHall x) {
        StringBuilder answers = new StringBuilder();
        for (int h = 0; h <= 9; h++) {
            answers.append(x.most(h, true)).append(' ');
        }
        answers.append(x.waiting(0, 9)).append(' ').append(x.first()).append(' ').append(x.fire(true)).append(' ');
        answers.append(x.judge(1, 11)).append(' ').append(x.judge(2, 1110)).append(' ').append(x.judge(1, 10)).append(' ');
        answers.append(x.judge(4, 32000030)).append(' ').append(x.share(0, 5, true)).append(' ').append(x.letter(0, 5, true));
        answers.append(' ').append(x.who(0)).append(' ').append(x.rests(0, 1, 0, 0));
        return answers.toString();
    }

    private static void goneIsNotThere() {
        Check.sentence("NAMES that are gone are not there, PEOPLE that are gone neither;");
        NameHall x = Check.hallOf("HN25N05P09dP09dP09dP09d");
        due("all", x.most(0, true), 112);
        due("without", x.waiting(0, 0), 1);
        x.take(1, 0);
        x.take(3, 0);
        x.run(1);
        due("a twin is gone with one", x.most(0, true), 2);
        due("three people, one name", x.waiting(0, 0), 2);
        due("what another wears on is gone, too", x.most(0, false), 1);
        due("fire", x.fire(true), 2);
        due("fire", x.fire(false), 5);
        x.run(3);
        due("two are gone", x.most(0, true), 20);
        due("two people, one name", x.waiting(0, 0), 1);
        due("first", x.first(), 0);
        x.take(0, 1);
        x.run(0);
        due("no names any more", x.most(0, true), 0);
        due("one is left", x.waiting(0, 9), 10);
        due("fire", x.fire(true), 0);
        for (int n = 0; n < 4; n++) {
            NameHall y = Check.hallOf("HN01N02N03N04P09pP09a");
            y.take(0, n);
            due("one can save", y.fire(false), 4);
            y.run(0);
            due("a gone one saves nothing that is left", y.fire(false), 0);
            due("a gone one saves nothing that is left", y.fire(true), 0);
            due("a gone one is given nothing that is left", y.most(0, true), 0);
        }
    }

    private static void halvesAsPlain() {
        Check.sentence("HALVES are as PLAIN ones.");
        NameHall x = Check.hallOf("HN15P09bP99b");
        due("alone", x.most(0, false), 1);
        due("waiting", x.waiting(0, 9), 1);
        due("first", x.first(), 9);
        due("fire", x.fire(false), 5);
        due("judged", x.judge(1, 11), NONE);
        due("share", x.share(0, 0, true), 1);
        due("letter", x.letter(1, 9, false), 2);
        due("it is a half all the same", x.take(0, 0) + x.count(5), 1);
    }

    private static void waitingFromTo() {
        Check.sentence("WAITING from an HOUR a to b: what MOST leaves without a NAME AT each of them, together.");
        NameHall x = Check.hallOf("HN05P09bP24bP99bP00a");
        int[] without = {1, 0, 1, 1, 1, 0, 0, 0, 0, 1};
        for (int a = 0; a <= 9; a++) {
            int sum = 0;
            for (int b = a; b <= 9; b++) {
                sum += without[b];
                due("from " + a + " to " + b, x.waiting(a, b), sum);
            }
        }
        due("as many as can be", Check.hallOf("HP09aP09aP09aP09aP09a").waiting(0, 9), 50);
        due("nobody", new NameHall().waiting(0, 9), 0);
    }

    private static void waitingRefuses() {
        Check.sentence("WAITING. OUTSIDE: a, b (0 to 9, b no less than a).");
        NameHall x = Check.hallOf("HN05P09b");
        for (int a = -2; a <= 11; a++) {
            for (int b = -2; b <= 11; b++) {
                boolean can = a >= 0 && b <= 9 && a <= b;
                due("from " + a + " to " + b, x.waiting(a, b), can ? 0 : OUTSIDE);
            }
        }
        due("far", x.waiting(Integer.MIN_VALUE, Integer.MAX_VALUE), OUTSIDE);
        due("far", x.waiting(0, Integer.MAX_VALUE), OUTSIDE);
        due("far", x.waiting(Integer.MIN_VALUE, 9), OUTSIDE);
    }

    private static void first() {
        Check.sentence("FIRST: the first HOUR (0 to 9) AT which somebody is left without; NONE.");
        for (int h = 0; h <= 9; h++) {
            due("from " + h, Check.hallOf("HN05P09bP" + h + "9b").first(), h);
            due("only at " + h, Check.hallOf("HP" + h + h + "a").first(), h);
        }
        due("none", Check.hallOf("HN25P09bP09b").first(), NONE);
        due("none needs any", new NameHall().first(), NONE);
        due("no people", Check.hallOf("HN05").first(), NONE);
        Check.sentence("`int first()`: FIRST; NONE.");
        NameHall x = Check.hallOf("HP03a");
        Check.hours(x, 3);
        due("the hour is nothing", x.first(), 0);
        due("the last hour", Check.hallOf("HN05P09bP99b").first(), 9);
        due("one hour less, none", Check.hallOf("HN05P08bP99b").first(), NONE);
    }

    private static void fireSavesOnce() {
        Check.sentence("FIRE: each PERSON saves one NAME at most, that FITS it, each NAME is saved once at most:");
        due("one person, two names", Check.hallOf("HN05N06P09d").fire(false), 6);
        due("two people, one name", Check.hallOf("HN05P09bP09b").fire(false), 5);
        due("two people, a twin", Check.hallOf("HN25P09bP09b").fire(false), 5);
        due("two people, a twin", Check.hallOf("HN25P09bP09b").fire(true), 1);
        due("fits nobody", Check.hallOf("HN09N01P09cP09c").fire(false), 1);
        due("five people, four names", Check.hallOf("HN09N09N09N09P09pP09pP09pP09pP09p").fire(false), 36);
        due("five people, four names", Check.hallOf("HN09N09N09N09P09pP09pP09pP09pP09p").fire(true), 1234);
        due("four names, three people", Check.hallOf("HN01N02N03N04P09pP09pP09p").fire(false), 9);
        due("four names, three people", Check.hallOf("HN01N02N03N04P09pP09pP09p").fire(true), 234);
    }

    private static void fireByWorth() {
        Check.sentence("by which all that are saved are WORTH most;");
        due("one dear rather than a cheap one", Check.hallOf("HN01N09P09d").fire(true), 2);
        due("two cheap rather than one", Check.hallOf("HN04N05P09dP09c").fire(true), 12);
        due("the dear one goes to who can", Check.hallOf("HN09N01P09dP09b").fire(true), 21);
        due("together", Check.hallOf("HN09N01P09dP09b").fire(false), 10);
        due("the dearest are saved", Check.hallOf("HN03N08N07P09gP09h").fire(true), 23);
        due("the least worth there is", Check.hallOf("HN01P09b").fire(false), 1);
    }

    private static void fireFirstWay() {
        Check.sentence("of like ways the first (told likewise): how much; the way.");
        due("like names", Check.hallOf("HN05N05N05N05P09p").fire(true), 1);
        due("like people", Check.hallOf("HN05P09bP09bP09b").fire(true), 1);
        due("like both", Check.hallOf("HN05N05P09dP09d").fire(true), 12);
        due("only the first can", Check.hallOf("HN05P09bP09aP09a").fire(true), 100);
        due("nobody saves more than is there", Check.hallOf("HN05N05P09dP09dP09d").fire(true), 12);
    }

    private static void fireWithoutHours() {
        Check.sentence("FIRE: each PERSON saves one NAME at most");
        NameHall x = Check.hallOf("HN05N06P00bP99c");
        due("whenever they need one", x.fire(true), 12);
        Check.hours(x, 20);
        due("behind all hours", x.fire(true), 12);
    }

    private static void fireOfNothing() {
        Check.sentence("FIRE: how much (way = false), the way (way = true).");
        due("nothing", new NameHall().fire(false), 0);
        due("nothing", new NameHall().fire(true), 0);
        due("no names", Check.hallOf("HP09pP09p").fire(true), 0);
        due("nobody", Check.hallOf("HN09N09").fire(false), 0);
        due("fits none", Check.hallOf("HN09P09a").fire(true), 0);
        due("a half alone", Check.hallOf("HN17P09b").fire(false), 7);
        due("a heavy one", Check.hallOf("HN37P09b").fire(false), 7);
    }

    private static void judgeHowMany() {
        Check.sentence("JUDGED: n things (1 to 4)");
        NameHall x = Check.hallOf("HN05P09b");
        Check.range("n", n -> x.judge(n, 0), 1, 4, OUTSIDE);
        Check.range("n", n -> x.judge(n, 11), 1, 4, OUTSIDE);
        due("one", x.judge(1, 11), NONE);
        due("four", x.judge(4, 11101110), NONE);
        due("the fourth", x.judge(4, 11101111), 3);
        due("the fourth", x.judge(4, 11101112), 3);
    }

    private static void judgeFigures() {
        Check.sentence("`int judge(int n, int row)`: JUDGED; NONE. OUTSIDE: n, row (0 or more, 2 n figures at most).");
        NameHall x = Check.hallOf("HN05P09b");
        int most = 1;
        for (int n = 1; n <= 4; n++) {
            most *= 100;
            due("as many figures as can be, " + n, x.judge(n, most - 1), 0);
            due("one more figure, " + n, x.judge(n, most), OUTSIDE);
            due("one more figure, " + n, x.judge(n, most + 11), OUTSIDE);
            due("no figures, " + n, x.judge(n, 0), NONE);
            due("less than nothing, " + n, x.judge(n, -1), OUTSIDE);
            due("less than nothing, " + n, x.judge(n, -100), OUTSIDE);
            due("the greatest, " + n, x.judge(n, Integer.MAX_VALUE), OUTSIDE);
            due("the least, " + n, x.judge(n, Integer.MIN_VALUE), OUTSIDE);
        }
        due("both are outside", x.judge(0, -1), OUTSIDE);
        due("both are outside", x.judge(5, 1000000000), OUTSIDE);
    }

    private static void judgeOrder() {
        Check.sentence("told as two figures each");
        NameHall x = Check.hallOf("HN05P09bP09b");
        due("the first thing stands ahead", x.judge(2, 1110), NONE);
        due("the other way round", x.judge(2, 1011), 0);
        due("hours stand ahead as noughts", x.judge(4, 11), NONE);
        due("hours stand ahead as noughts", x.judge(4, 1121), 3);
        due("hours stand ahead as noughts", x.judge(3, 1110), NONE);
        due("hours stand behind", x.judge(3, 110000), NONE);
        due("an hour between", x.judge(3, 110021), 2);
    }

    private static void judgeThings() {
        Check.sentence("(a PERSON and 1, a NAME and 1: TAKEN; a PERSON and 1, 0: HUNG; 0 and 0: AN HOUR)");
        NameHall x = Check.hallOf("HN05N21N31P09bP09fP09fP09gP09a");
        for (int thing = 0; thing <= 99; thing++) {
            int person = thing / 10;
            int name = thing % 10;
            boolean fits = person == 1 && name == 1 || (person == 2 || person == 3) && (name == 1 || name == 3)
                    || person == 4 && (name == 2 || name == 3);
            due("thing " + thing, x.judge(1, thing), thing == 0 || fits ? NONE : 0);
        }
        due("hung behind taken", x.judge(2, 4340), NONE);
        due("hung by another", x.judge(2, 4330), 1);
        due("hung twice", x.judge(3, 434040), 2);
        due("a name for none", x.judge(2, 1101), 1);
        due("a plain one has no room for two", x.judge(2, 1121), 1);
        due("a twin has room for two", Check.hallOf("HN25P09bP09bP09b").judge(2, 1121), NONE);
        due("a twin has no room for three", Check.hallOf("HN25P09bP09bP09b").judge(3, 112131), 2);
        due("no room once more", x.judge(4, 11102111), 3);
        due("a heavy one behind two hours", Check.hallOf("HN35P09b").judge(4, 11000010), NONE);
        due("nothing there", new NameHall().judge(1, 0), NONE);
        due("nothing there", new NameHall().judge(1, 10), 0);
    }

    private static void judgeEveryOne() {
        Check.sentence("(a PERSON and 1, a NAME and 1: TAKEN; a PERSON and 1, 0: HUNG; 0 and 0: AN HOUR)");
        NameHall x = Check.hallOf("HN01N02N03N04P09pP09pP09pP09pP09p");
        for (int thing = 1; thing <= 99; thing++) {
            int person = thing / 10;
            int name = thing % 10;
            boolean can = person >= 1 && person <= 5 && name >= 1 && name <= 4;
            due("the first of all, " + thing, x.judge(1, thing), can ? NONE : 0);
            if (can) {
                due("hung behind it, " + thing, x.judge(2, 100 * thing + 10 * person), NONE);
                due("hung by the next one, " + thing, x.judge(2, 100 * thing + 10 * (person % 5 + 1)), 1);
                due("the same name for the next one, " + thing, x.judge(2, 100 * thing + 10 * (person % 5 + 1) + name), 1);
            }
        }
    }

    private static void judgePlaces() {
        Check.sentence("the place of the first that can not be; NONE: none.");
        NameHall x = Check.hallOf("HN05P09b");
        due("place 0", x.judge(4, 99000000), 0);
        due("place 1", x.judge(4, 990000), 1);
        due("place 2", x.judge(4, 9900), 2);
        due("place 3", x.judge(4, 99), 3);
        due("of two the first", x.judge(4, 990099), 1);
    }

    private static void judgeSetsAside() {
        Check.sentence("Who wears what now, HOURS it was worn are set aside;");
        NameHall x = Check.hallOf("HN35N05P09dP09d");
        x.take(0, 0);
        due("what is worn can be taken", x.judge(1, 21), NONE);
        due("what is worn can not be hung", x.judge(1, 10), 0);
        due("who wears one takes one", x.judge(1, 12), NONE);
        Check.hours(x, 2);
        due("hours that it was worn", x.judge(3, 110010), NONE);
        due("it is worn on", x.person(0, 4), 2);
    }

    private static void judgeGone() {
        Check.sentence("NAMES that are gone are not there, PEOPLE that are gone neither;");
        NameHall x = Check.hallOf("HN25N05P09dP09dP09d");
        due("there", x.judge(1, 11), NONE);
        x.take(0, 0);
        x.take(1, 0);
        x.run(0);
        due("a gone person", x.judge(1, 12), 0);
        due("a gone name", x.judge(1, 31), 0);
        due("a gone name that another wears on", x.judge(1, 20), 0);
        due("others", x.judge(2, 3230), NONE);
        x.undo();
        due("there again", x.judge(2, 1121), NONE);
    }

    private static NameHall inTheMiddle() {
        NameHall x = Check.hallOf("HN25N35N15N05P09pP09pP39pP09pP00p");
        x.keep(0);
        x.take(0, 0);
        x.take(1, 1);
        x.take(4, 0);
        x.hour();
        x.run(4);
        x.keep(1);
        x.hour();
        x.see(0, 3);
        x.deed(2, 3);
        x.seed(12345);
        return x;
    }

    private static void nothingIsChanged() {
        Check.sentence("In what follows nothing is changed.");
        String was = Look.deep(SomebodyEdgesTest::inTheMiddle);
        Check.same("most", Look.deep(() -> asking(0)), was);
        Check.same("waiting", Look.deep(() -> asking(1)), was);
        Check.same("first", Look.deep(() -> asking(2)), was);
        Check.same("fire", Look.deep(() -> asking(3)), was);
        Check.same("judge", Look.deep(() -> asking(4)), was);
        Check.same("who", Look.deep(() -> asking(5)), was);
        Check.same("share", Look.deep(() -> asking(6)), was);
        Check.same("rests", Look.deep(() -> asking(7)), was);
        Check.same("letter", Look.deep(() -> asking(8)), was);
        Check.same("name, person, count, fault", Look.deep(() -> asking(9)), was);
    }

    private static NameHall asking(int what) {
        NameHall x = inTheMiddle();
        switch (what) {
            case 0 -> x.most(3, x.most(3, false) > 0);
            case 1 -> x.waiting(0, 9);
            case 2 -> x.first();
            case 3 -> x.fire(x.fire(false) > 0);
            case 4 -> {
                x.judge(4, 11102200);
                x.judge(4, 44);
                x.judge(2, 3399);
            }
            case 5 -> x.who(2);
            case 6 -> x.share(3, 3, x.share(2, 4, true) > 0);
            case 7 -> x.rests(0, 1, 2, x.rests(1, 0, 3, 0) > 0 ? 0 : 1);
            case 8 -> x.letter(3, 3, x.letter(2, 4, true) > 0);
            default -> {
                x.name(2, 2);
                x.person(2, 2);
                x.count(5);
                x.fault();
            }
        }
        return x;
    }
}
