/** The boundaries of THE TEXT and of THE HALL that it tells: promises 1 to 5. */
public final class TextEdgesTest {
    private static final int UNKNOWN = Check.UNKNOWN, OUTSIDE = Check.OUTSIDE, STATE = Check.STATE, FULL = Check.FULL, NONE = Check.NONE;
    /** As many of both as there can be. */
    private static final String FULL_HALL = "HN01N12N23N39P00aP09pP22cP99dP45e";

    public static void main(String[] args) {
        newObject();
        fortyLetters();
        lettersOfAText();
        wipe();
        firstLetter();
        fourNames();
        fivePeople();
        numberedAsTold();
        kindsAndWorths();
        hoursOfPeople();
        fits();
        bitsOfNamesThatThereAreNot();
        everyLetterAtEveryPlace();
        whateverCameBehind();
        lengthSetAside();
        notAtItsEnd();
        faultAnswers();
        hallAnswers();
        hallRefuses();
        madeAnew();
        hallEmptiesAndKeeps();
        Check.end("TextEdgesTest");
    }

    private static void due(String what, long got, long want) {
        Check.due(what, got, want);
    }

    private static int faultOf(String text) {
        NameHall x = new NameHall();
        Check.write(x, text);
        return x.fault();
    }

    private static void newObject() {
        Check.sentence("At first there is nothing.");
        NameHall x = new NameHall();
        due("the text is no hall yet", x.hall(), STATE);
        due("fault", x.fault(), 0);
        Check.sentence("`NameHall()`: No names, nobody.");
        due("names", x.count(1), 0);
        due("people", x.count(2), 0);
        due("the first name", x.name(0, 0), UNKNOWN);
        due("the first person", x.person(0, 0), UNKNOWN);
        due("names and people", x.count(4) + x.count(5) + x.count(6), 0);
        Check.sentence("none at first");
        due("seen and deeds", x.count(8), 0);
        due("forgotten", x.forget(), 0);
        Check.sentence("x (THE SEED, a long; 0 at first)");
        due("seed", x.seed(9), 0);
    }

    private static void fortyLetters() {
        Check.sentence("THE TEXT is letters (40 at most).");
        NameHall x = new NameHall();
        for (int i = 1; i <= 40; i++) {
            due("letter " + i, x.write('H'), i);
        }
        Check.sentence("OUTSIDE; FULL: there are 40.");
        due("the 41st", x.write('H'), FULL);
        due("the 41st again", x.write(0), FULL);
        due("letters", x.count(0), 40);
        due("outside is named first", x.write(256), OUTSIDE);
        due("outside is named first", x.write(-1), OUTSIDE);
        due("all are wiped", x.wipe(), 40);
        due("there is room again", x.write('H'), 1);
        NameHall y = new NameHall();
        Check.write(y, "HHHHHHHHHHHHHHHHHHHHHHHHHHHHHHHHHHHHHHH");
        due("39", y.count(0), 39);
        due("the 40th", y.write('H'), 40);
    }

    private static void lettersOfAText() {
        Check.sentence("A letter (0 to 255) comes behind THE TEXT: how long it is.");
        Check.range("write", v -> new NameHall().write(v), 0, 255, OUTSIDE);
        NameHall x = new NameHall();
        due("what would be H in 8 bits", x.write(256 + 'H'), OUTSIDE);
        due("what would be H in 8 bits", x.write('H' - 256), OUTSIDE);
        due("what would be H in 16 bits", x.write(65536 + 'H'), OUTSIDE);
        due("none came", x.count(0), 0);
        due("behind the text", x.write('H'), 1);
        due("behind the text", x.write('N'), 2);
        due("behind the text", x.fault(), 2);
        due("255 is a letter", x.write(255), 3);
        due("255 is a letter", x.fault(), 2);
    }

    private static void wipe() {
        Check.sentence("THE TEXT is empty: how long it was.");
        NameHall x = new NameHall();
        due("nothing", x.wipe(), 0);
        x.write('H');
        due("one", x.wipe(), 1);
        due("empty", x.count(0), 0);
        due("empty", x.fault(), 0);
        Check.write(x, "HN");
        x.wipe();
        Check.write(x, "H");
        due("what was behind is not there any more", x.fault(), NONE);
        NameHall y = Check.hallOf("HN05P09b");
        y.take(0, 0);
        due("a hall's text", y.wipe(), 8);
        due("the hall stays", y.count(1) * 10 + y.count(2), 11);
        due("acts stay", y.count(7), 1);
        due("it is worn on", y.person(0, 3), 0);
    }

    private static void firstLetter() {
        Check.sentence("A HALL is a TEXT: H, then PARTS, none or more;");
        due("nothing", faultOf(""), 0);
        due("H alone", faultOf("H"), NONE);
        due("beside H", faultOf("G"), 0);
        due("beside H", faultOf("I"), 0);
        due("small h", faultOf("h"), 0);
        due("a part alone", faultOf("N05"), 0);
        due("one part", faultOf("HN05"), NONE);
        due("one part", faultOf("HP00a"), NONE);
        due("H twice", faultOf("HH"), 1);
        due("H behind a part", faultOf("HN05H"), 4);
        due("small n", faultOf("Hn05"), 1);
        due("small p", faultOf("Hp00a"), 1);
        due("beside N", faultOf("HM"), 1);
        due("beside N and P", faultOf("HO"), 1);
        due("beside P", faultOf("HQ"), 1);
    }

    private static void fourNames() {
        Check.sentence("NAMES (4 at most)");
        due("3", Check.hallOf("HN01N01N01").count(1), 3);
        due("4", faultOf("HN01N01N01N01"), NONE);
        due("4", Check.hallOf("HN01N01N01N01").count(1), 4);
        due("5", faultOf("HN01N01N01N01N"), 13);
        due("5, told to its end", faultOf("HN01N01N01N01N01"), 13);
        due("5, people between", faultOf("HN01P00aN01P00aN01P00aN01P00aN"), 29);
        due("4 are no bound for people", faultOf("HN01N01N01N01P00aP00aP00aP00aP00a"), NONE);
        NameHall x = new NameHall();
        Check.write(x, "HN01N01N01N01N01");
        due("5 make no hall", x.hall(), STATE);
    }

    private static void fivePeople() {
        Check.sentence("PEOPLE (5 at most)");
        due("4", Check.hallOf("HP00aP00aP00aP00a").count(2), 4);
        due("5", faultOf("HP00aP00aP00aP00aP00a"), NONE);
        due("5", Check.hallOf("HP00aP00aP00aP00aP00a").count(2), 5);
        due("6", faultOf("HP00aP00aP00aP00aP00aP"), 21);
        due("6, told to its end", faultOf("HP00aP00aP00aP00aP00aP00a"), 21);
        due("6, names between", faultOf("HP00aN01P00aN01P00aP00aP00aP"), 27);
        due("5 are no bound for names", faultOf("HP00aP00aP00aP00aP00aN01N01N01N01"), NONE);
        NameHall x = new NameHall();
        Check.write(x, "HP00aP00aP00aP00aP00aP00a");
        due("6 make no hall", x.hall(), STATE);
    }

    private static void numberedAsTold() {
        Check.sentence("are numbered as they are told, each for itself:");
        NameHall x = Check.hallOf("HP12aN01P34bN12P56cN23P78dN34P99e");
        for (int n = 0; n < 4; n++) {
            due("kind of " + n, x.name(n, 0), n);
            due("worth of " + n, x.name(n, 1), n + 1);
        }
        int[] firstHours = {1, 3, 5, 7, 9};
        int[] lastHours = {2, 4, 6, 8, 9};
        for (int p = 0; p < 5; p++) {
            due("first hour of " + p, x.person(p, 0), firstHours[p]);
            due("last hour of " + p, x.person(p, 1), lastHours[p]);
            due("fits " + p, x.person(p, 2), p);
        }
    }

    private static void kindsAndWorths() {
        Check.sentence("a NAME of KIND k: 0 PLAIN, 1 HALF, 2 TWIN, 3 HEAVY, WORTH v (1 to 9)");
        for (char k = '0' - 1; k <= '3' + 1; k++) {
            due("kind " + k, faultOf("HN" + k + "5"), k < '0' || k > '3' ? 2 : NONE);
        }
        for (char v = '0' - 1; v <= '9' + 1; v++) {
            due("worth " + v, faultOf("HN0" + v), v < '1' || v > '9' ? 3 : NONE);
        }
        for (int k = 0; k <= 3; k++) {
            for (int v = 1; v <= 9; v++) {
                NameHall x = Check.hallOf("HN" + k + v);
                due("kind and worth", 10 * x.name(0, 0) + x.name(0, 1), 10 * k + v);
            }
        }
    }

    private static void hoursOfPeople() {
        Check.sentence("a PERSON that NEEDS a NAME in HOURS a to b (0 to 9, b no less than a);");
        for (char a = '0' - 1; a <= '9' + 1; a++) {
            boolean isHour = a >= '0' && a <= '9';
            due("from " + a, faultOf("HP" + a), isHour ? 3 : 2);
            for (char b = '0' - 1; isHour && b <= '9' + 1; b++) {
                boolean can = b >= a && b <= '9';
                due("from " + a + " to " + b, faultOf("HP" + a + b + "a"), can ? NONE : 3);
                if (can) {
                    NameHall x = Check.hallOf("HP" + a + b + "a");
                    due("first and last", 10 * x.person(0, 0) + x.person(0, 1), 10 * (a - '0') + b - '0');
                }
            }
        }
    }

    private static void fits() {
        Check.sentence("m (a to p) tells which NAMES FIT it: a is 0, b 1, .. p 15, as bits");
        for (char m = 'a' - 1; m <= 'p' + 1; m++) {
            boolean can = m >= 'a' && m <= 'p';
            due("fits " + m, faultOf("HP00" + m), can ? NONE : 4);
            if (can) {
                due("fits " + m, Check.hallOf("HN01N01N01N01P00" + m).person(0, 2), m - 'a');
            }
        }
        due("great A", faultOf("HP00A"), 4);
        due("a figure", faultOf("HP000"), 4);
    }

    private static void bitsOfNamesThatThereAreNot() {
        Check.sentence("(bits of NAMES that there are not are nothing)");
        String[] halls = {"HP09p", "HP09pN01", "HP09pN01N01", "HP09pN01N01N01", "HP09pN01N01N01N01"};
        for (int names = 0; names <= 4; names++) {
            NameHall x = Check.hallOf(halls[names]);
            due("fits of " + names, x.person(0, 2), (1 << names) - 1);
            due("fire of " + names, x.fire(true), names == 0 ? 0 : 1);
            due("most of " + names, x.most(0, true), names == 0 ? 0 : 1);
            due("without", x.waiting(0, 9), names == 0 ? 10 : 0);
            due("there is no such name", x.take(0, names), UNKNOWN);
        }
        NameHall y = Check.hallOf("HN01N01P09i");
        due("only a bit of none", y.person(0, 2), 0);
        due("only a bit of none", y.most(0, true), 0);
        due("only a bit of none", y.fire(false), 0);
        due("only a bit of none", y.letter(0, 0, true), 0);
        due("only a bit of none", y.first(), 0);
    }

    /** For each place of a full hall the letters that can stand there, as ranges. */
    private static boolean canStand(String text, int place, int letter) {
        int at = 1;
        if (place == 0) {
            return letter == 'H';
        }
        for (int part = 0; part < 9; part++) {
            boolean isName = text.charAt(at) == 'N';
            int inside = place - at;
            if (inside < (isName ? 3 : 4)) {
                return canStandInPart(text.substring(at), isName, inside, letter);
            }
            at += isName ? 3 : 4;
        }
        return false;
    }

    private static boolean canStandInPart(String part, boolean isName, int inside, int letter) {
        if (inside == 1) {
            return letter >= '0' && letter <= (isName ? '3' : '9');
        }
        if (inside == 2) {
            return letter >= (isName ? '1' : part.charAt(1)) && letter <= '9';
        }
        return letter >= 'a' && letter <= 'p';
    }

    private static void everyLetterAtEveryPlace() {
        Check.sentence("FAULT: the place of the first letter by which THE TEXT can be no HALL");
        int names = 0;
        int people = 0;
        for (int place = 0; place <= FULL_HALL.length(); place++) {
            boolean isStart = place == FULL_HALL.length() || place > 0 && "NP".indexOf(FULL_HALL.charAt(place)) >= 0;
            String ahead = FULL_HALL.substring(0, place);
            for (int letter = 0; letter <= 255; letter++) {
                boolean can = isStart
                        ? letter == 'N' && names < 4 || letter == 'P' && people < 5
                        : canStand(FULL_HALL, place, letter);
                int fault = faultOf(ahead + (char) letter);
                if (can) {
                    Check.holds(ahead + " can have " + letter + " behind it", fault == NONE || fault == place + 1);
                } else {
                    due(ahead + " and " + letter, fault, place);
                }
            }
            if (isStart && place < FULL_HALL.length()) {
                names += FULL_HALL.charAt(place) == 'N' ? 1 : 0;
                people += FULL_HALL.charAt(place) == 'P' ? 1 : 0;
            }
        }
    }

    private static void whateverCameBehind() {
        Check.sentence("whatever came behind it");
        String[] wrong = {"X", "HX", "HN4", "HN00", "HP:", "HP54", "HP55q", "HN05P00aN05X"};
        String[] behind = {"", "H", "05", "N05", "P00a", "HN05P00a"};
        for (String text : wrong) {
            for (String more : behind) {
                due(text + more, faultOf(text + more), text.length() - 1);
            }
        }
        due("of two the first", faultOf("HN4XN00"), 2);
    }

    private static void lengthSetAside() {
        Check.sentence("(its length set aside)");
        due("a full hall of 33", faultOf(FULL_HALL), NONE);
        due("the 34th letter", faultOf(FULL_HALL + "N"), 33);
        due("the 34th letter", faultOf(FULL_HALL + "P"), 33);
        due("40 letters", faultOf(FULL_HALL + "N01P00a"), 33);
        due("40 letters with a fault ahead", faultOf("HN01P98aN01P00aN01P00aN01P00aP00aP00aN01"), 6);
        due("40 letters of nothing", faultOf("NNNNNNNNNNNNNNNNNNNNNNNNNNNNNNNNNNNNNNNN"), 0);
    }

    private static void notAtItsEnd() {
        Check.sentence("its length, if it is only not at its end; NONE: none.");
        String[] halls = {FULL_HALL, "HP09pN31P00aN29", "HP99pP89oP79nP69mP59lN01N12N23N34"};
        for (String hall : halls) {
            int at = 1;
            for (int length = 0; length <= hall.length(); length++) {
                boolean isWhole = length == at;
                due("of " + hall + " the first " + length, faultOf(hall.substring(0, length)), isWhole ? NONE : length);
                if (isWhole && length < hall.length()) {
                    at += hall.charAt(length) == 'N' ? 3 : 4;
                }
            }
        }
    }

    private static void faultAnswers() {
        Check.sentence("`int fault()`: FAULT; NONE.");
        due("the first place", faultOf("X"), 0);
        due("the last place there is", faultOf(FULL_HALL + "X"), 33);
        due("none", faultOf(FULL_HALL), NONE);
        NameHall x = Check.hallOf("HN05");
        due("of the text, not of the hall", x.wipe() + x.fault(), 4);
        due("asked twice", x.fault(), 0);
        x.write('H');
        due("mended", x.fault(), NONE);
    }

    private static void hallAnswers() {
        Check.sentence("10 times NAMES, and PEOPLE.");
        String names = "N01N12N23N34";
        String people = "P00aP11bP22cP33dP44e";
        for (int n = 0; n <= 4; n++) {
            for (int p = 0; p <= 5; p++) {
                NameHall x = new NameHall();
                Check.write(x, "H" + people.substring(0, 4 * p) + names.substring(0, 3 * n));
                due("hall of " + n + " and " + p, x.hall(), 10 * n + p);
                due("names", x.count(1), n);
                due("people", x.count(2), p);
                due("the last name", n == 0 ? 0 : x.name(n - 1, 1), n);
                due("one more name", x.name(n, 1), UNKNOWN);
                due("the last person", p == 0 ? 0 : x.person(p - 1, 0) + 1, p);
                due("one more person", x.person(p, 0), UNKNOWN);
            }
        }
    }

    private static void hallRefuses() {
        Check.sentence("STATE: a FAULT.");
        String[] texts = {"", "X", "HX", "HN", "HN0", "HN00", "HP0", "HP10a", "HP00q", "HN05N05N05N05N05", FULL_HALL + "N"};
        for (String text : texts) {
            NameHall x = new NameHall();
            Check.write(x, text);
            due("hall of " + text, x.hall(), STATE);
            due("no names", x.count(1), 0);
            due("nobody", x.count(2), 0);
        }
        NameHall y = Check.hallOf("HN05P09b");
        y.write('N');
        due("not at its end any more", y.hall(), STATE);
        y.write('1');
        due("not at its end", y.hall(), STATE);
        y.write('2');
        due("at its end", y.hall(), 21);
    }

    private static void madeAnew() {
        Check.sentence("THE HOUR is 0, all NAMES hang, nobody has WAITED, when THE HALL is made anew.");
        NameHall x = Check.hallOf("HN25N31N05P09pP09pP09pP09a");
        x.take(0, 0);
        x.take(1, 0);
        x.take(2, 1);
        Check.hours(x, 2);
        x.run(0);
        due("the same again", x.hall(), 34);
        due("the hour", x.count(3), 0);
        due("waited", x.count(6), 0);
        due("somebody", x.count(5), 0);
        due("needs", x.count(4), 15);
        for (int p = 0; p < 4; p++) {
            due("wears", x.person(p, 3), NONE);
            due("for how long", x.person(p, 4), 0);
            due("waited", x.person(p, 5), 0);
            due("gone", x.person(p, 7), 0);
        }
        for (int n = 0; n < 3; n++) {
            due("hangs", x.name(n, 2), 0);
            due("gone", x.name(n, 3), 0);
        }
        due("a gone one takes a gone one", x.take(0, 0), 1);
    }

    private static void hallEmptiesAndKeeps() {
        Check.sentence("THE TEXT is THE HALL (THE ROW of ACTS is empty, what was kept is gone; SEEN, DEEDS, THE SEED stay)");
        NameHall x = Check.hallOf("HN05P09bP09b");
        x.keep(0);
        x.take(0, 0);
        x.keep(1);
        Check.hours(x, 14);
        x.see(0, 3);
        x.deed(0, 3);
        x.seed(-5);
        due("letters stay", x.hall() * 100 + x.count(0), 1212);
        due("acts", x.count(7), 0);
        due("nothing to undo", x.undo(), STATE);
        due("kept in 0", x.again(0), STATE);
        due("kept in 1", x.again(1), STATE);
        due("seen and deeds", x.count(8), 2);
        due("seen and deeds", x.who(0), 2);
        due("seed", x.seed(0), -5);
        x.keep(1);
        x.write('X');
        due("refused", x.hall(), STATE);
        due("kept in 1 stays then", x.again(1), 0);
    }
}
