/** For each promise: ordinary calls, the edges that the document names, wrong inputs. */
public final class PromiseTest {
    private static final int UNKNOWN = -1, OUTSIDE = -2, STATE = -3, FULL = -4, NONE = -9;

    public static void main(String[] args) {
        newObject();
        write();
        wipe();
        fault();
        hall();
        name();
        person();
        take();
        hang();
        hour();
        run();
        undo();
        most();
        waiting();
        first();
        fire();
        judge();
        see();
        deed();
        forget();
        who();
        share();
        rests();
        letter();
        seed();
        days();
        keep();
        again();
        count();
        Check.end("PromiseTest");
    }

    private static void due(String what, long got, long want) {
        Check.due(what, got, want);
    }

    private static void newObject() {
        NameHall x = new NameHall();
        for (int what = 0; what <= 8; what++) {
            due("1 count(" + what + ")", x.count(what), 0);
        }
        due("1 name", x.name(0, 0), UNKNOWN);
        due("1 person", x.person(0, 0), UNKNOWN);
        due("1 seed", x.seed(1), 0);
        due("1 undo", x.undo(), STATE);
        due("1 again", x.again(0), STATE);
        due("1 again", x.again(1), STATE);
    }

    private static void write() {
        NameHall x = new NameHall();
        due("2 below", x.write(-1), OUTSIDE);
        due("2 above", x.write(256), OUTSIDE);
        due("2 least", x.write(0), 1);
        due("2 greatest", x.write(255), 2);
        for (int i = 3; i <= 40; i++) {
            due("2 write " + i, x.write('H'), i);
        }
        due("2 full", x.write('H'), FULL);
        due("2 outside ahead of full", x.write(256), OUTSIDE);
        due("2 least int", x.write(Integer.MIN_VALUE), OUTSIDE);
        due("2 still 40", x.count(0), 40);
    }

    private static void wipe() {
        NameHall x = Check.hallOf("HN05");
        due("3 how long it was", x.wipe(), 4);
        due("3 empty", x.wipe(), 0);
        due("3 the hall stays", x.count(1), 1);
        due("3 from the start again", x.write('H'), 1);
        due("3 no fault left", x.fault(), NONE);
    }

    private static void faultOf(String text, int want) {
        NameHall x = new NameHall();
        Check.write(x, text);
        due("4 fault of " + text, x.fault(), want);
        due("4 hall of " + text, x.hall() == STATE ? 1 : 0, want == NONE ? 0 : 1);
    }

    private static void fault() {
        faultOf("", 0);
        faultOf("h", 0);
        faultOf("N05", 0);
        faultOf("H", NONE);
        faultOf("HH", 1);
        faultOf("HN", 2);
        faultOf("HN0", 3);
        faultOf("HN05", NONE);
        faultOf("HN/5", 2);
        faultOf("HN35", NONE);
        faultOf("HN45", 2);
        faultOf("HN00", 3);
        faultOf("HN01", NONE);
        faultOf("HN09", NONE);
        faultOf("HN0:", 3);
        faultOf("HP", 2);
        faultOf("HP0", 3);
        faultOf("HP00", 4);
        faultOf("HP00a", NONE);
        faultOf("HP99p", NONE);
        faultOf("HP09p", NONE);
        faultOf("HP:9p", 2);
        faultOf("HP/9p", 2);
        faultOf("HP0/p", 3);
        faultOf("HP54a", 3);
        faultOf("HP55a", NONE);
        faultOf("HP5:a", 3);
        faultOf("HP00q", 4);
        faultOf("HP00`", 4);
        faultOf("HP00aN", 6);
        faultOf("HP00an05", 5);
        faultOf("HN01N12N23N34", NONE);
        faultOf("HN01N12N23N34N", 13);
        faultOf("HN01N12N23N34P00a", NONE);
        faultOf("HP00aP11bP22cP33dP44e", NONE);
        faultOf("HP00aP11bP22cP33dP44eP", 21);
        faultOf("HP00aP11bP22cP33dP44eN01", NONE);
        faultOf("HN01N12N23N34P00aP11bP22cP33dP44e", NONE);
        faultOf("HN01N12N23N34P00aP11bP22cP33dP44eX", 33);
        faultOf("HN01N12N23N34P00aP11bP22cP33dP44eNNNNNNN", 33);
    }

    private static void hall() {
        NameHall x = new NameHall();
        due("5 no text", x.hall(), STATE);
        Check.write(x, "HN");
        due("5 not at its end", x.hall(), STATE);
        x.wipe();
        Check.write(x, "HP09bN05N06");
        due("5 hall", x.hall(), 21);
        due("5 text stays", x.count(0), 11);
        x.take(0, 0);
        x.hour();
        x.keep(0);
        x.see(0, 1);
        x.deed(0, 2);
        x.seed(77);
        x.write('X');
        due("5 refused", x.hall(), STATE);
        due("5 refused changes nothing", x.person(0, 3), 0);
        due("5 refused changes nothing", x.count(7), 2);
        x.wipe();
        Check.write(x, "HP09c");
        due("5 written, not yet the hall", x.count(1), 2);
        due("5 anew", x.hall(), 1);
        due("5 no names", x.name(0, 0), UNKNOWN);
        due("5 row empty", x.count(7), 0);
        due("5 undo", x.undo(), STATE);
        due("5 kept is gone", x.again(0), STATE);
        due("5 hour", x.count(3), 0);
        due("5 hangs", x.person(0, 3), NONE);
        due("5 clues stay", x.count(8), 2);
        due("5 seed stays", x.seed(0), 77);
        x.wipe();
        Check.write(x, "H");
        due("5 empty hall", x.hall(), 0);
        NameHall y = Check.hallOf("HN05N06P09d");
        y.hour();
        y.take(0, 1);
        y.run(0);
        due("5 the same again", y.hall(), 21);
        due("5 nothing gone", y.name(1, 3), 0);
        due("5 nobody gone", y.person(0, 7), 0);
        due("5 nobody waited", y.count(6), 0);
    }

    private static void name() {
        NameHall x = Check.hallOf("HN05N12N29N31P09pP09p");
        int[] worth = {5, 2, 9, 1};
        for (int n = 0; n < 4; n++) {
            due("6 kind", x.name(n, 0), n);
            due("6 worth", x.name(n, 1), worth[n]);
            due("6 wearers", x.name(n, 2), 0);
            due("6 gone", x.name(n, 3), 0);
        }
        x.take(1, 2);
        due("6 one wears it", x.name(2, 2), 2);
        x.take(0, 2);
        due("6 two wear it", x.name(2, 2), 3);
        x.run(1);
        due("6 one is gone with it", x.name(2, 3), 1);
        due("6 the other wears it on", x.name(2, 2), 1);
        due("6 what", x.name(0, 4), OUTSIDE);
        due("6 what", x.name(0, -1), OUTSIDE);
        due("6 name", x.name(4, 0), UNKNOWN);
        due("6 name", x.name(-1, 0), UNKNOWN);
        due("6 unknown first", x.name(4, 4), UNKNOWN);
    }

    private static void person() {
        NameHall x = Check.hallOf("HP27pN05P00bN12P19c");
        due("7 first", x.person(0, 0), 2);
        due("7 last", x.person(0, 1), 7);
        due("7 fits only what there is", x.person(0, 2), 3);
        due("7 fits", x.person(1, 2), 1);
        due("7 fits", x.person(2, 2), 2);
        due("7 wears", x.person(0, 3), NONE);
        due("7 hours", x.person(0, 4), 0);
        x.take(0, 0);
        x.hour();
        x.hour();
        due("7 wears", x.person(0, 3), 0);
        due("7 hours", x.person(0, 4), 2);
        due("7 somebody", x.person(0, 6), 1);
        due("7 waited", x.person(1, 5), 1);
        due("7 waited", x.person(2, 5), 1);
        due("7 waited", x.person(0, 5), 0);
        due("7 nobody", x.person(1, 6), 0);
        x.hang(0);
        due("7 hours of none", x.person(0, 4), 0);
        x.take(0, 0);
        due("7 hours anew", x.person(0, 4), 0);
        x.hour();
        x.run(0);
        due("7 gone", x.person(0, 7), 1);
        due("7 gone wears none", x.person(0, 3), NONE);
        due("7 gone for no hours", x.person(0, 4), 0);
        due("7 gone is nobody", x.person(0, 6), 0);
        due("7 gone fits as told", x.person(0, 2), 3);
        due("7 not gone", x.person(1, 7), 0);
        due("7 what", x.person(0, 8), OUTSIDE);
        due("7 what", x.person(0, -1), OUTSIDE);
        due("7 person", x.person(3, 0), UNKNOWN);
        due("7 person", x.person(-1, 9), UNKNOWN);
    }

    private static void take() {
        NameHall x = Check.hallOf("HN05N22P55bP09dP09dP09d");
        due("8 ahead of its hours", x.take(0, 0), 1);
        due("8 wears one", x.take(0, 0), STATE);
        due("8 no room", x.take(1, 0), STATE);
        due("8 twin", x.take(1, 1), 1);
        due("8 twin", x.take(2, 1), 2);
        due("8 no room for a third", x.take(3, 1), STATE);
        x.hang(0);
        due("8 does not fit", x.take(0, 1), STATE);
        due("8 person", x.take(4, 0), UNKNOWN);
        due("8 name", x.take(0, 2), UNKNOWN);
        due("8 below", x.take(-1, 0), UNKNOWN);
        due("8 below", x.take(0, -1), UNKNOWN);
        x.run(1);
        x.hang(2);
        due("8 run off with", x.take(2, 1), STATE);
        due("8 one that is gone", x.take(1, 0), STATE);
        due("8 refused are no acts", x.count(7), 6);
    }

    private static void hang() {
        NameHall x = Check.hallOf("HN05N06P09dP09d");
        due("9 wears none", x.hang(0), STATE);
        x.take(0, 1);
        due("9 what it wore", x.hang(0), 1);
        due("9 no more", x.hang(0), STATE);
        due("9 free again", x.take(1, 1), 1);
        due("9 unknown", x.hang(2), UNKNOWN);
        due("9 unknown", x.hang(-1), UNKNOWN);
        due("9 acts", x.count(7), 3);
    }

    private static void hour() {
        NameHall x = Check.hallOf("HN34N11N11P01bP19gP00gP22a");
        due("10 two need, none has", x.hour(), 2);
        due("10 waited", x.person(0, 5) * 100 + x.person(1, 5) * 10 + x.person(2, 5), 101);
        x.take(0, 0);
        x.take(1, 1);
        due("10 a half alone is nobody", x.hour(), 1);
        x.take(2, 2);
        due("10 halves meet", x.person(1, 6) + x.person(2, 6), 2);
        due("10 one left", x.hour(), 1);
        due("10 heavy worn two hours", x.person(0, 4), 2);
        due("10 nobody left", x.hour(), 0);
        due("10 heavy is hung", x.person(0, 3), NONE);
        due("10 for none", x.person(0, 4), 0);
        due("10 others are not", x.person(1, 4), 3);
        due("10 the hour", x.count(3), 4);
        due("10 heavy is taken again", x.take(0, 0), 1);
        x.hour();
        x.hang(0);
        x.take(0, 0);
        x.hour();
        x.hour();
        due("10 running begins anew", x.person(0, 3), 0);
        x.hang(2);
        for (int h = 7; h < 10; h++) {
            due("10 half alone at " + h, x.hour(), 1);
        }
        due("10 after the last hour", x.hour(), 0);
        due("10 the hour goes on", x.count(3), 11);
        NameHall y = Check.hallOf("HN13P09bP09b");
        y.take(0, 0);
        due("10 one half only", y.hour(), 2);
        y.run(0);
        due("10 gone need nothing", y.hour(), 1);
        due("10 gone wait no more", y.person(0, 5), 1);
        NameHall z = Check.hallOf("HN34P02b");
        z.take(0, 0);
        z.hour();
        z.hour();
        due("10 somebody in the third hour, too", z.hour(), 0);
        due("10 waited none", z.person(0, 5), 0);
    }

    private static void run() {
        NameHall x = Check.hallOf("HN22N11N13P09pP09pP09pP09p");
        due("11 wears none", x.run(0), STATE);
        x.take(0, 0);
        x.take(1, 0);
        due("11 what it wore", x.run(1), 0);
        due("11 name gone", x.name(0, 3), 1);
        due("11 person gone", x.person(1, 7), 1);
        due("11 the other wears on", x.person(0, 3), 0);
        due("11 and is somebody", x.person(0, 6), 1);
        due("11 no room there", x.take(2, 0), STATE);
        due("11 gone wears none", x.run(1), STATE);
        due("11 needs nothing", x.count(4), 13);
        due("11 the other runs, too", x.run(0), 0);
        due("11 gone both", x.count(4), 12);
        x.take(2, 1);
        x.take(3, 2);
        due("11 halves met", x.count(5), 12);
        x.run(3);
        due("11 half alone", x.count(5), 0);
        due("11 unknown", x.run(4), UNKNOWN);
        due("11 unknown", x.run(-1), UNKNOWN);
        due("11 acts", x.count(7), 7);
        due("11 the first is gone still", x.name(0, 3), 1);
    }

    private static void undo() {
        NameHall x = Check.hallOf("HN31N22P09dP09d");
        due("12 none", x.undo(), STATE);
        x.take(0, 0);
        x.take(1, 1);
        x.hour();
        x.hour();
        x.hour();
        due("12 heavy hung", x.person(0, 3), NONE);
        due("12 hour undone", x.undo(), 4);
        due("12 wears again", x.person(0, 3), 0);
        due("12 for two hours", x.person(0, 4), 2);
        due("12 the hour", x.count(3), 2);
        x.run(1);
        due("12 run undone", x.undo(), 4);
        due("12 nobody gone", x.person(1, 7) + x.name(1, 3), 0);
        due("12 wears again", x.person(1, 3), 1);
        due("12 for two hours", x.person(1, 4), 2);
        x.hang(1);
        due("12 hang undone", x.undo(), 4);
        due("12 for two hours", x.person(1, 4), 2);
        due("12 undone", x.undo(), 3);
        due("12 undone", x.undo(), 2);
        due("12 take undone", x.undo(), 1);
        due("12 hangs", x.person(1, 3), NONE);
        due("12 undone", x.undo(), 0);
        due("12 hangs", x.person(0, 3), NONE);
        due("12 none left", x.undo(), STATE);
        for (int i = 0; i < 20; i++) {
            x.hour();
        }
        due("12 fourteen at most", x.count(7), 14);
        due("12 waited", x.count(6), 20);
        for (int left = 13; left >= 0; left--) {
            due("12 left", x.undo(), left);
        }
        due("12 the first are forgotten", x.undo(), STATE);
        due("12 back to the seventh", x.count(3), 6);
        due("12 waited", x.count(6), 12);
    }

    private static void most() {
        NameHall x = Check.hallOf("HN05N12N29N34P03bP09pP15hP29mP00d");
        due("13 count", x.most(0, false), 3);
        due("13 way", x.most(0, true), 13002);
        x.take(1, 0);
        due("13 who wears what is set aside", x.most(0, true), 13002);
        x.run(1);
        due("13 gone are not there", x.most(0, true), 2);
        due("13 gone are not there", x.most(9, true), 30);
        due("13 below", x.most(-1, false), OUTSIDE);
        due("13 above", x.most(10, true), OUTSIDE);
        NameHall y = Check.hallOf("HN25P09bP09bP09b");
        due("13 a twin is given twice", y.most(4, false), 2);
        due("13 the least number", y.most(4, true), 11);
        NameHall z = Check.hallOf("HN11P22bP33b");
        due("13 halves are as plain", z.most(2, false), 1);
        due("13 way", z.most(2, true), 10);
        due("13 way", z.most(3, true), 1);
        due("13 nobody needs", z.most(4, true), 0);
        NameHall w = Check.hallOf("HN05N05P09dP09b");
        due("13 makes way for another", w.most(0, true), 21);
    }

    private static void waiting() {
        NameHall x = Check.hallOf("HN05P03bP23bP35b");
        due("14 all", x.waiting(0, 9), 3);
        due("14 one hour", x.waiting(3, 3), 2);
        due("14 none", x.waiting(0, 1), 0);
        due("14 part", x.waiting(2, 2), 1);
        x.hour();
        due("14 the hour is nothing", x.waiting(0, 9), 3);
        due("14 b less", x.waiting(3, 2), OUTSIDE);
        due("14 a below", x.waiting(-1, 2), OUTSIDE);
        due("14 b above", x.waiting(3, 10), OUTSIDE);
        due("14 both above", x.waiting(10, 10), OUTSIDE);
        x.take(0, 0);
        x.run(0);
        due("14 name and one are gone", x.waiting(0, 9), 5);
    }

    private static void first() {
        due("15 nothing", new NameHall().first(), NONE);
        due("15 first", Check.hallOf("HN05P03bP23bP35b").first(), 2);
        due("15 none", Check.hallOf("HN25P03bP23bP45b").first(), NONE);
        due("15 nothing fits", Check.hallOf("HN05P99a").first(), 9);
        NameHall x = Check.hallOf("HN05P09bP79b");
        due("15 both", x.first(), 7);
        x.take(0, 0);
        due("15 who wears is set aside", x.first(), 7);
        x.run(0);
        due("15 gone", x.first(), 7);
        NameHall y = Check.hallOf("HN05N06P09bP09d");
        due("15 none", y.first(), NONE);
        y.take(1, 0);
        y.run(1);
        due("15 the name is gone", y.first(), 0);
    }

    private static void fire() {
        NameHall x = Check.hallOf("HN29N05P00dP00dP00d");
        due("16 a twin is saved once", x.fire(false), 14);
        due("16 the first way", x.fire(true), 12);
        x.take(0, 1);
        due("16 worn or not", x.fire(true), 12);
        x.run(0);
        due("16 gone", x.fire(false), 9);
        due("16 gone", x.fire(true), 1);
        NameHall y = Check.hallOf("HN01N09P00dP00b");
        due("16 both", y.fire(true), 21);
        NameHall z = Check.hallOf("HN05N05N04P09dP09d");
        due("16 like ways", z.fire(true), 12);
        due("16 worth", z.fire(false), 10);
        NameHall w = Check.hallOf("HN01N09N08P09dP99aP09g");
        due("16 one that can save none", w.fire(true), 203);
        due("16 worth", w.fire(false), 17);
        NameHall v = Check.hallOf("HN01N02N03N04P09iP09p");
        due("16 the fourth name", v.fire(true), 43);
        due("16 the fourth name", v.fire(false), 7);
        due("16 nothing", new NameHall().fire(false), 0);
    }

    private static void judge() {
        NameHall x = Check.hallOf("HN05N22P09dP09dP09d");
        due("17 taken", x.judge(1, 11), NONE);
        due("17 hung before", x.judge(1, 10), 0);
        due("17 taken, hung, an hour, taken", x.judge(4, 11100021), NONE);
        due("17 leading zeros", x.judge(2, 11), NONE);
        due("17 twins", x.judge(3, 122232), 2);
        due("17 twins", x.judge(2, 1222), NONE);
        due("17 wears one", x.judge(2, 1112), 1);
        due("17 no such person", x.judge(2, 1141), 1);
        due("17 no such name", x.judge(2, 1123), 1);
        due("17 no person", x.judge(2, 1101), 1);
        due("17 person 9", x.judge(1, 90), 0);
        due("17 all hours", x.judge(4, 0), NONE);
        x.take(0, 0);
        due("17 who wears what is set aside", x.judge(1, 11), NONE);
        due("17 who wears what is set aside", x.judge(1, 10), 0);
        due("17 nothing is changed", x.person(0, 3), 0);
        due("17 nothing is changed", x.count(7), 1);
        x.run(0);
        due("17 gone name", x.judge(1, 21), 0);
        due("17 gone person", x.judge(1, 12), 0);
        due("17 hour stays", x.count(3), 0);
        due("17 n", x.judge(0, 0), OUTSIDE);
        due("17 n", x.judge(5, 0), OUTSIDE);
        due("17 row", x.judge(1, 100), OUTSIDE);
        due("17 row", x.judge(1, 99), 0);
        due("17 row", x.judge(4, 100000000), OUTSIDE);
        due("17 row", x.judge(4, 99999999), 0);
        due("17 row", x.judge(1, -1), OUTSIDE);
        due("17 heavy", Check.hallOf("HN35P09b").judge(4, 11000000), NONE);
        due("17 heavy", Check.hallOf("HN35P09b").judge(4, 11000010), NONE);
    }

    private static void see() {
        NameHall x = Check.hallOf("HN05P09b");
        due("18 unknown", x.see(1, 0), UNKNOWN);
        due("18 unknown first", x.see(-1, 10), UNKNOWN);
        due("18 outside", x.see(0, 10), OUTSIDE);
        due("18 outside", x.see(0, -1), OUTSIDE);
        for (int i = 1; i <= 6; i++) {
            due("18 see", x.see(0, 9), i);
        }
        due("18 full", x.see(0, 9), FULL);
        due("18 outside ahead of full", x.see(0, 10), OUTSIDE);
        due("18 unknown ahead of full", x.see(1, 0), UNKNOWN);
        due("18 full for deeds", x.deed(0, 0), FULL);
    }

    private static void deed() {
        NameHall x = Check.hallOf("HN05P09bP09b");
        due("19 unknown", x.deed(1, 0), UNKNOWN);
        due("19 unknown first", x.deed(-1, 10), UNKNOWN);
        due("19 outside", x.deed(0, 10), OUTSIDE);
        due("19 outside", x.deed(0, -1), OUTSIDE);
        x.see(1, 3);
        for (int i = 2; i <= 6; i++) {
            due("19 deed", x.deed(0, i), i);
        }
        due("19 full", x.deed(0, 0), FULL);
        due("19 refused changes nothing", x.who(0), 1);
        due("19 full for seen", x.see(0, 0), FULL);
    }

    private static void forget() {
        NameHall x = Check.hallOf("HN05P09bP12b");
        due("20 none", x.forget(), 0);
        x.deed(0, 5);
        x.see(0, 5);
        due("20 who", x.who(0), 0);
        due("20 how many", x.forget(), 2);
        due("20 none left", x.count(8), 0);
        due("20 who", x.who(0), 3);
        x.deed(0, 5);
        due("20 seen is forgotten", x.who(0), 1);
    }

    private static void who() {
        NameHall x = Check.hallOf("HN05N06P09bP25dP05cP09d");
        due("21 all that it fits", x.who(0), 11);
        due("21 all that it fits", x.who(1), 14);
        x.deed(0, 2);
        due("21 need it then", x.who(0), 11);
        x.deed(0, 6);
        due("21 need it at both", x.who(0), 9);
        due("21 another name", x.who(1), 14);
        x.see(0, 5);
        due("21 seen at another hour", x.who(0), 9);
        x.see(0, 6);
        due("21 seen at one of them", x.who(0), 8);
        x.take(3, 0);
        x.run(3);
        due("21 gone people are not there", x.who(0), 0);
        due("21 gone people are not there", x.who(1), 6);
        x.forget();
        due("21 a gone name is as if it were not", x.who(0), 3);
        due("21 unknown", x.who(2), UNKNOWN);
        due("21 unknown", x.who(-1), UNKNOWN);
        NameHall w = Check.hallOf("HN05P35bP69bP09b");
        w.deed(0, 5);
        due("21 the last hour in which one needs it", w.who(0), 5);
        w.forget();
        w.deed(0, 9);
        w.see(2, 9);
        due("21 the last hour of all", w.who(0), 2);
        NameHall y = Check.hallOf("HN05N05P09dP09d");
        y.see(1, 3);
        y.deed(1, 3);
        y.wipe();
        Check.write(y, "HN05P09d");
        y.hall();
        due("21 of those there are not nothing is looked at", y.who(0), 1);
        due("21 they stay", y.count(8), 2);
        y.wipe();
        Check.write(y, "HN05N05P09dP09d");
        y.hall();
        due("21 there again", y.who(1), 1);
    }

    private static void fraction(String what, NameHall x, int name, int h, int above, int below) {
        due(what + " above", x.share(name, h, true), above);
        due(what + " below", x.share(name, h, false), below);
    }

    private static void share() {
        NameHall x = Check.hallOf("HN05N06P05bP05dP77a");
        fraction("22 only one fits the one", x, 0, 0, 1, 1);
        fraction("22 one", x, 1, 5, 1, 1);
        fraction("22 nothing fits", x, 0, 7, 0, 1);
        fraction("22 nobody needs", x, 0, 8, 0, 1);
        NameHall y = Check.hallOf("HN05N06N07P05pP11b");
        fraction("22 thirds", y, 0, 0, 1, 3);
        fraction("22 sixths", y, 0, 1, 1, 1);
        fraction("22 sixths", y, 1, 1, 1, 2);
        NameHall w = Check.hallOf("HN05N06N07N08P05pP05d");
        fraction("22 four names", w, 0, 0, 7, 12);
        fraction("22 four names", w, 1, 0, 7, 12);
        fraction("22 four names", w, 2, 0, 5, 12);
        fraction("22 four names", w, 3, 0, 5, 12);
        NameHall z = Check.hallOf("HN25N01P09dP09dP00a");
        fraction("22 twins", z, 0, 3, 3, 2);
        fraction("22 plain", z, 1, 3, 1, 2);
        z.take(0, 0);
        fraction("22 worn or not", z, 0, 3, 3, 2);
        z.run(0);
        fraction("22 gone", z, 0, 3, 0, 1);
        fraction("22 the other", z, 1, 3, 1, 1);
        due("22 unknown", z.share(2, 3, true), UNKNOWN);
        due("22 unknown first", z.share(-1, 10, false), UNKNOWN);
        due("22 outside", z.share(0, 10, true), OUTSIDE);
        due("22 outside", z.share(0, -1, false), OUTSIDE);
    }

    private static void rests() {
        NameHall x = Check.hallOf("HN01N02N05N09P09pP09pP00aP00h");
        // worth 1: (0, 0): one has 1; the other would have 1 - 1 = 0 by bid 1, no more than 0
        due("23 worth 1", x.rests(0, 1, 0, 1), 0);
        due("23 worth 2", x.rests(0, 1, 1, 1), NONE);
        due("23 worth 2", x.rests(0, 1, 1, 0), 0);
        due("23 worth 5, at the top", x.rests(0, 1, 2, 0), 0);
        // worth 9: one bids 4 and has 5, the other bids 0: one would have more by bid 0
        due("23 worth 9", x.rests(0, 1, 3, 0), 0);
        due("23 fits neither", x.rests(2, 3, 3, 1), 0);
        due("23 fits neither", x.rests(2, 3, 3, 0), 1);
        due("23 fits the other", x.rests(2, 0, 3, 1), 0);
        due("23 fits the other", x.rests(2, 0, 3, 0), 1);
        due("23 fits the first", x.rests(0, 2, 3, 0), 1);
        x.take(0, 3);
        x.run(0);
        due("23 a gone one bids for nothing", x.rests(0, 1, 3, 0), 1);
        due("23 a gone name is as if it were not", x.rests(1, 2, 3, 1), 0);
        due("23 unknown", x.rests(4, 1, 0, 0), UNKNOWN);
        due("23 unknown", x.rests(0, 4, 0, 0), UNKNOWN);
        due("23 unknown", x.rests(0, 1, 4, 0), UNKNOWN);
        due("23 unknown", x.rests(-1, -1, 0, 0), UNKNOWN);
        due("23 both are one", x.rests(1, 1, 0, 0), OUTSIDE);
        due("23 what", x.rests(0, 1, 0, 2), OUTSIDE);
        due("23 what", x.rests(0, 1, 0, -1), OUTSIDE);
    }

    private static void chance(String what, NameHall x, int person, int h, int above, int below) {
        due(what + " above", x.letter(person, h, true), above);
        due(what + " below", x.letter(person, h, false), below);
    }

    private static void letter() {
        NameHall x = Check.hallOf("HN05N26P09dP05dP03dP00b");
        chance("24 four and three", x, 0, 0, 1, 2);
        chance("24 three and three", x, 0, 3, 5, 9);
        chance("24 two and two", x, 0, 5, 3, 4);
        chance("24 alone", x, 0, 9, 1, 1);
        chance("24 needs none", x, 2, 4, 0, 1);
        chance("24 one name only", x, 3, 0, 1, 4);
        x.take(1, 1);
        chance("24 worn or not", x, 0, 5, 3, 4);
        x.run(1);
        chance("24 gone", x, 0, 3, 1, 2);
        chance("24 gone person", x, 1, 3, 0, 1);
        due("24 unknown", x.letter(4, 0, true), UNKNOWN);
        due("24 unknown first", x.letter(-1, 10, false), UNKNOWN);
        due("24 outside", x.letter(0, 10, true), OUTSIDE);
        due("24 outside", x.letter(0, -1, false), OUTSIDE);
    }

    private static void seed() {
        NameHall x = new NameHall();
        due("25 at first", x.seed(Long.MIN_VALUE), 0);
        due("25 what it was", x.seed(Long.MAX_VALUE), Long.MIN_VALUE);
        due("25 what it was", x.seed(3), Long.MAX_VALUE);
        x.days(31);
        due("25 refused days do nothing", x.seed(0), 3);
    }

    private static void days() {
        NameHall x = Check.hallOf("HN05N22P09dP09d");
        due("26 m", x.days(0), OUTSIDE);
        due("26 m", x.days(31), OUTSIDE);
        due("26 m", x.days(-1), OUTSIDE);
        due("26 seed is left", x.seed(0), 0);
        // the first number is 1442695040888963407; its upper 31 bits by 30 leave a chance that is looked at here
        long chance = (1442695040888963407L >>> 33) % 30;
        boolean taken = chance / 5 < 2 && chance % 5 < 2;
        due("26 one day", x.days(1), taken ? 1 : 2);
        due("26 the seed went on", x.seed(0), 1442695040888963407L);
        due("26 nothing else changed", x.count(3) + x.count(6) + x.count(7) + x.name(0, 2) + x.name(1, 2), 0);
        // a seed whose next number is 0: chance 0, the first one takes the first name
        long inverse = inverse(6364136223846793005L);
        x.seed(-1442695040888963407L * inverse);
        due("26 taken by chance", x.days(1), 1);
        due("26 the seed is 0", x.seed(0), 0);
        // chance 25: the first one hangs what it wears
        x.take(0, 0);
        x.take(1, 1);
        x.seed(((25L << 33) - 1442695040888963407L) * inverse);
        due("26 hung by chance", x.days(1), 1);
        due("26 wears it on", x.person(0, 3), 0);
        // chance 20: nothing
        x.seed(((20L << 33) - 1442695040888963407L) * inverse);
        due("26 nothing by chance", x.days(1), 0);
        // the upper 31 bits are no negative number
        x.seed(((0x7fffffffL << 33) - 1442695040888963407L) * inverse);
        due("26 upper bits", x.days(1), 0);
        for (int i = 0; i < 9; i++) {
            x.hour();
        }
        due("26 waited more", x.days(30) <= 2 ? 1 : 0, 1);
        x.hour();
        due("26 nobody needs any more", x.days(30), 0);
        NameHall y = Check.hallOf("HP02aP13a");
        due("26 from the first hour on", y.days(30), 6);
        y.hour();
        y.hour();
        due("26 from the hour that it is", y.days(30), 3);
        due("26 some of the days", y.days(1), 2);
        // a half alone is nobody, two halves meet
        NameHall z = Check.hallOf("HN15N16P09dP09dP09d");
        z.take(1, 1);
        z.seed(-1442695040888963407L * inverse);
        due("26 halves meet", z.days(1), 1);
        z.seed(((20L << 33) - 1442695040888963407L) * inverse);
        due("26 a half alone", z.days(1), 3);
        // a heavy one is hung after its third hour, the hours it was worn before among them
        NameHall w = Check.hallOf("HN35P09b");
        w.take(0, 0);
        w.hour();
        w.hour();
        w.seed(((20L << 33) - 1442695040888963407L) * inverse);
        due("26 a heavy one in its third hour", w.days(1), 0);
        w.seed(((20L << 33) - 1442695040888963407L) * inverse);
        long second = (20L << 33) * 6364136223846793005L + 1442695040888963407L;
        boolean takes = (second >>> 33) % 30 == 0;
        due("26 a heavy one after it", w.days(2), takes ? 0 : 1);
    }

    private static long inverse(long odd) {
        long x = 1;
        for (int i = 0; i < 70; i++) {
            x *= 2 - odd * x;
        }
        return x;
    }

    private static void keep() {
        NameHall x = Check.hallOf("HN05N06P09dP09d");
        due("27 unknown", x.keep(-1), UNKNOWN);
        due("27 unknown", x.keep(2), UNKNOWN);
        due("27 the hour", x.keep(0), 0);
        x.hour();
        due("27 the hour", x.keep(1), 1);
        due("27 the row stays", x.count(7), 1);
        x.hour();
        due("27 over what was kept", x.keep(0), 2);
        due("27 again", x.again(0), 2);
        due("27 again", x.again(1), 1);
    }

    private static void again() {
        NameHall x = Check.hallOf("HN05N06N31P09pP09pP09p");
        due("28 none", x.again(0), STATE);
        due("28 unknown", x.again(2), UNKNOWN);
        due("28 unknown", x.again(-1), UNKNOWN);
        x.take(0, 0);
        x.take(2, 2);
        x.hour();
        x.run(0);
        x.hour();
        due("28 keep", x.keep(1), 2);
        int waited = x.count(6);
        x.hour();
        x.hang(2);
        x.take(1, 1);
        due("28 the other slot", x.again(0), STATE);
        due("28 refused changes nothing", x.count(7), 7);
        due("28 the hour", x.again(1), 2);
        due("28 waited", x.count(6), waited);
        due("28 wears", x.person(2, 3), 2);
        due("28 for how long", x.person(2, 4), 2);
        due("28 wears none", x.person(1, 3), NONE);
        due("28 gone", x.person(0, 7) + x.name(0, 3), 2);
        due("28 row is empty", x.count(7), 0);
        due("28 undo", x.undo(), STATE);
        x.hour();
        due("28 once more", x.again(1), 2);
        due("28 wears", x.person(2, 3), 2);
    }

    private static void count() {
        NameHall x = Check.hallOf("HN05N16P02dP13bP59c");
        due("29 letters", x.count(0), 19);
        due("29 names", x.count(1), 2);
        due("29 people", x.count(2), 3);
        due("29 hour", x.count(3), 0);
        due("29 needs", x.count(4), 1);
        x.hour();
        x.take(0, 0);
        x.take(2, 1);
        due("29 hour", x.count(3), 1);
        due("29 needs", x.count(4), 3);
        due("29 somebody", x.count(5), 1);
        x.hour();
        due("29 waited", x.count(6), 2);
        due("29 acts", x.count(7), 4);
        x.see(0, 0);
        x.deed(0, 0);
        due("29 seen and deeds", x.count(8), 2);
        due("29 outside", x.count(9), OUTSIDE);
        due("29 outside", x.count(-1), OUTSIDE);
        x.run(0);
        due("29 gone needs none", x.count(4), 2);
        due("29 gone is nobody", x.count(5), 0);
        due("29 names stay", x.count(1), 2);
        due("29 people stay", x.count(2), 3);
        due("29 waited stays", x.count(6), 2);
    }
}
