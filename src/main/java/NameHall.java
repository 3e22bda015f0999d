import java.util.Arrays;

/**
 * A hall of names that people wear by turns: told as a text, acted in hour by hour, asked what could be.
 * The document's words are kept: a NAME, a PERSON, an HOUR, somebody, nobody.
 */
public final class NameHall {
    public static final int UNKNOWN = -1, OUTSIDE = -2, STATE = -3, FULL = -4, NONE = -9;

    private static final int NAMES = 4, PEOPLE = 5, HOURS = 10;
    private static final int LETTERS = 40, NAME_LETTERS = 3, PERSON_LETTERS = 4;
    private static final int NAME_SETS = 1 << NAMES;
    private static final int HALF = 1, TWIN = 2, HEAVY = 3;
    private static final int HEAVY_HOURS = 3;
    private static final int ACTS = 14, SLOTS = 2, CLUES = 6, THINGS = 4, DAYS = 30, BIDS = 5;
    private static final int CHANCES = 30, HANG_CHANCE = 5;
    private static final long SEED_FACTOR = 6364136223846793005L, SEED_STEP = 1442695040888963407L;

    private final Text text;
    private final Plan plan;
    private final Scene now;
    /** Things are tried out here, so that asking changes nothing. */
    private final Scene trial;
    private final ActRow acts;
    private final Slots slots;
    private final Clues clues;
    private final Giving giving;
    private final Rescue rescue;
    private final Bidding bidding;
    private final int[] things;
    private long seed;

    public NameHall() {
        text = new Text();
        plan = new Plan();
        now = new Scene(plan);
        trial = new Scene(plan);
        acts = new ActRow();
        slots = new Slots();
        clues = new Clues();
        giving = new Giving(plan);
        rescue = new Rescue(plan);
        bidding = new Bidding();
        things = new int[THINGS];
        seed = 0;
    }

    // ---- the hall

    public int write(int letter) {
        if (letter < 0 || letter > 255) {
            return OUTSIDE;
        }
        return text.append((char) letter) ? text.size() : FULL;
    }

    public int wipe() {
        return text.clear();
    }

    public int fault() {
        return text.firstFault();
    }

    public int hall() {
        if (text.firstFault() != NONE) {
            return STATE;
        }
        plan.read(text);
        now.startAnew();
        acts.clear();
        slots.clear();
        return 10 * plan.names() + plan.people();
    }

    public int name(int name, int what) {
        if (!plan.hasName(name)) {
            return UNKNOWN;
        }
        switch (what) {
            case 0: return plan.kind(name);
            case 1: return plan.worth(name);
            case 2: return now.wearers(name);
            case 3: return now.isNameGone(name) ? 1 : 0;
            default: return OUTSIDE;
        }
    }

    public int person(int person, int what) {
        if (!plan.hasPerson(person)) {
            return UNKNOWN;
        }
        switch (what) {
            case 0: return plan.firstHour(person);
            case 1: return plan.lastHour(person);
            case 2: return plan.fits(person);
            case 3: return now.nameOf(person);
            case 4: return now.hoursWorn(person);
            case 5: return now.hoursWaited(person);
            case 6: return now.isSomebody(person) ? 1 : 0;
            case 7: return now.isPersonGone(person) ? 1 : 0;
            default: return OUTSIDE;
        }
    }

    // ---- acts

    public int take(int person, int name) {
        if (!plan.hasPerson(person) || !plan.hasName(name)) {
            return UNKNOWN;
        }
        if (!now.canTake(person, name)) {
            return STATE;
        }
        acts.remember(now);
        now.putOn(person, name);
        return Integer.bitCount(now.wearers(name));
    }

    public int hang(int person) {
        if (!plan.hasPerson(person)) {
            return UNKNOWN;
        }
        int name = now.nameOf(person);
        if (name == NONE) {
            return STATE;
        }
        acts.remember(now);
        now.takeOff(person);
        return name;
    }

    public int hour() {
        acts.remember(now);
        return now.passHour();
    }

    public int run(int person) {
        if (!plan.hasPerson(person)) {
            return UNKNOWN;
        }
        int name = now.nameOf(person);
        if (name == NONE) {
            return STATE;
        }
        acts.remember(now);
        now.runOff(person);
        return name;
    }

    public int undo() {
        return acts.takeBack(now) ? acts.size() : STATE;
    }

    // ---- somebody

    public int most(int h, boolean way) {
        if (!isHour(h)) {
            return OUTSIDE;
        }
        giving.prepare(now, h, NAME_SETS - 1);
        return way ? giving.firstWay() : giving.greatest();
    }

    public int waiting(int a, int b) {
        if (!isHour(a) || !isHour(b) || b < a) {
            return OUTSIDE;
        }
        int sum = 0;
        for (int h = a; h <= b; h++) {
            sum += leftWithout(h);
        }
        return sum;
    }

    public int first() {
        for (int h = 0; h < HOURS; h++) {
            if (leftWithout(h) > 0) {
                return h;
            }
        }
        return NONE;
    }

    public int fire(boolean way) {
        rescue.prepare(now);
        return way ? rescue.firstWay() : rescue.greatest();
    }

    public int judge(int n, int row) {
        if (n < 1 || n > THINGS || row < 0 || !readThings(n, row)) {
            return OUTSIDE;
        }
        trial.copy(now);
        trial.hangAll();
        for (int place = 0; place < n; place++) {
            if (!happens(things[place])) {
                return place;
            }
        }
        return NONE;
    }

    // ---- who did it

    public int see(int person, int h) {
        if (!plan.hasPerson(person)) {
            return UNKNOWN;
        }
        if (!isHour(h)) {
            return OUTSIDE;
        }
        return clues.addSeen(person, h) ? clues.size() : FULL;
    }

    public int deed(int name, int h) {
        if (!plan.hasName(name)) {
            return UNKNOWN;
        }
        if (!isHour(h)) {
            return OUTSIDE;
        }
        return clues.addDeed(name, h) ? clues.size() : FULL;
    }

    public int forget() {
        return clues.clear();
    }

    public int who(int name) {
        return plan.hasName(name) ? clues.suspects(now, plan, name) : UNKNOWN;
    }

    // ---- shares, rests, chances

    public int share(int name, int h, boolean upper) {
        if (!plan.hasName(name)) {
            return UNKNOWN;
        }
        if (!isHour(h)) {
            return OUTSIDE;
        }
        int others = ((1 << plan.names()) - 1) & ~(1 << name);
        int sum = 0;
        for (int come = 0; come < NAME_SETS; come++) {
            if ((come & ~others) == 0) {
                sum += gain(name, come, h) * ordersWith(Integer.bitCount(come));
            }
        }
        return partOfFraction(sum, factorial(plan.names()), upper);
    }

    public int rests(int one, int other, int name, int what) {
        if (!plan.hasPerson(one) || !plan.hasPerson(other) || !plan.hasName(name)) {
            return UNKNOWN;
        }
        if (one == other || what < 0 || what > 1) {
            return OUTSIDE;
        }
        bidding.prepare(plan.worth(name), now.isFitting(one, name), now.isFitting(other, name));
        return what == 0 ? bidding.countRests() : bidding.firstRest();
    }

    public int letter(int person, int h, boolean upper) {
        if (!plan.hasPerson(person)) {
            return UNKNOWN;
        }
        if (!isHour(h)) {
            return OUTSIDE;
        }
        int all = 1;
        int missed = 1;
        for (int name = 0; name < plan.names(); name++) {
            int takers = now.takersAt(name, h);
            if ((takers >> person & 1) == 1) {
                all *= Integer.bitCount(takers);
                missed *= Integer.bitCount(takers) - 1;
            }
        }
        return partOfFraction(all - missed, all, upper);
    }

    public long seed(long v) {
        long was = seed;
        seed = v;
        return was;
    }

    public int days(int m) {
        if (m < 1 || m > DAYS) {
            return OUTSIDE;
        }
        trial.copy(now);
        int sum = 0;
        for (int day = 0; day < m; day++) {
            seed = seed * SEED_FACTOR + SEED_STEP;
            actByChance((int) ((seed >>> 33) % CHANCES));
            sum += trial.passHour();
        }
        return sum;
    }

    // ---- slots

    public int keep(int slot) {
        return slots.store(slot, now) ? now.hourNow() : UNKNOWN;
    }

    public int again(int slot) {
        if (!slots.has(slot)) {
            return UNKNOWN;
        }
        if (!slots.load(slot, now)) {
            return STATE;
        }
        acts.clear();
        return now.hourNow();
    }

    public int count(int what) {
        switch (what) {
            case 0: return text.size();
            case 1: return plan.names();
            case 2: return plan.people();
            case 3: return now.hourNow();
            case 4: return now.needingAt(now.hourNow());
            case 5: return now.somebodies();
            case 6: return now.allWaited();
            case 7: return acts.size();
            case 8: return clues.size();
            default: return OUTSIDE;
        }
    }

    // ---- what several calls need

    private static boolean isHour(int h) {
        return h >= 0 && h < HOURS;
    }

    private int leftWithout(int h) {
        giving.prepare(now, h, NAME_SETS - 1);
        return Integer.bitCount(now.needingAt(h)) - giving.greatest();
    }

    /** False if the row has more figures than n things are told by. */
    private boolean readThings(int n, int row) {
        int rest = row;
        for (int place = Math.min(n, THINGS) - 1; place >= 0; place--) {
            things[place] = rest % 100;
            rest /= 100;
        }
        return rest == 0;
    }

    private boolean happens(int thing) {
        int person = thing / 10 - 1;
        int name = thing % 10 - 1;
        if (person < 0 && name < 0) {
            trial.passHour();
            return true;
        }
        return name < 0 ? trial.hangs(person) : trial.takes(person, name);
    }

    /** What can not be is simply left out: the day goes by all the same. */
    private void actByChance(int chance) {
        int person = chance % PEOPLE;
        int what = chance / PEOPLE;
        if (what < NAMES) {
            trial.takes(person, what);
        } else if (what == HANG_CHANCE) {
            trial.hangs(person);
        }
    }

    private int gain(int name, int come, int h) {
        giving.prepare(now, h, come);
        int before = giving.greatest();
        giving.prepare(now, h, come | 1 << name);
        return giving.greatest() - before;
    }

    /** In how many orders of all NAMES just so many, told ones, come ahead of a told one. */
    private int ordersWith(int ahead) {
        return factorial(ahead) * factorial(plan.names() - 1 - ahead);
    }

    private static int factorial(int n) {
        int product = 1;
        for (int i = 2; i <= n && i <= NAMES; i++) {
            product *= i;
        }
        return product;
    }

    private static int partOfFraction(int above, int below, boolean upper) {
        int divisor = commonDivisor(above, below);
        int part = upper ? above : below;
        return divisor > 1 ? part / divisor : part;
    }

    private static int commonDivisor(int a, int b) {
        int greater = a;
        int lesser = b;
        for (int step = 0; step < 50 && lesser != 0; step++) {
            int rest = greater % lesser;
            greater = lesser;
            lesser = rest;
        }
        return greater;
    }

    // ---- the parts

    /** THE TEXT, letter by letter. */
    private static final class Text {
        private final char[] letters = new char[LETTERS];
        private int length;

        int size() {
            return length;
        }

        boolean append(char letter) {
            if (length < 0 || length >= letters.length) {
                return false;
            }
            letters[length] = letter;
            length++;
            return true;
        }

        int clear() {
            int was = length;
            length = 0;
            return was;
        }

        /** Behind the end there is letter 0, which stands in no HALL. */
        char letterAt(int place) {
            return place >= 0 && place < length && place < letters.length ? letters[place] : 0;
        }

        int firstFault() {
            if (letterAt(0) != 'H') {
                return 0;
            }
            int names = 0;
            int people = 0;
            for (int at = 1; at < length; at += letterAt(at) == 'N' ? NAME_LETTERS : PERSON_LETTERS) {
                boolean isName = letterAt(at) == 'N';
                boolean isPerson = letterAt(at) == 'P';
                names += isName ? 1 : 0;
                people += isPerson ? 1 : 0;
                if (!isName && !isPerson || names > NAMES || people > PEOPLE) {
                    return at;
                }
                int fault = isName ? nameFault(at) : personFault(at);
                if (fault != NONE) {
                    return fault;
                }
            }
            return NONE;
        }

        private int nameFault(int at) {
            if (isWrong(at + 1, '0', '3')) {
                return at + 1;
            }
            if (isWrong(at + 2, '1', '9')) {
                return at + 2;
            }
            return at + NAME_LETTERS > length ? length : NONE;
        }

        private int personFault(int at) {
            if (isWrong(at + 1, '0', '9')) {
                return at + 1;
            }
            if (isWrong(at + 2, letterAt(at + 1), '9')) {
                return at + 2;
            }
            if (isWrong(at + 3, 'a', 'p')) {
                return at + 3;
            }
            return at + PERSON_LETTERS > length ? length : NONE;
        }

        private boolean isWrong(int place, char least, char greatest) {
            return place < length && (letterAt(place) < least || letterAt(place) > greatest);
        }
    }

    /** THE HALL as it was told; what happens in it is a Scene's. */
    private static final class Plan {
        private final int[] kinds = new int[NAMES];
        private final int[] worths = new int[NAMES];
        private final int[] firstHours = new int[PEOPLE];
        private final int[] lastHours = new int[PEOPLE];
        private final int[] fitting = new int[PEOPLE];
        private int names;
        private int people;

        int names() {
            return names;
        }

        int people() {
            return people;
        }

        boolean hasName(int name) {
            return name >= 0 && name < names && name < NAMES;
        }

        boolean hasPerson(int person) {
            return person >= 0 && person < people && person < PEOPLE;
        }

        int kind(int name) {
            return hasName(name) ? kinds[name] : 0;
        }

        int worth(int name) {
            return hasName(name) ? worths[name] : 0;
        }

        int room(int name) {
            return kind(name) == TWIN ? 2 : 1;
        }

        int firstHour(int person) {
            return hasPerson(person) ? firstHours[person] : 0;
        }

        int lastHour(int person) {
            return hasPerson(person) ? lastHours[person] : 0;
        }

        /** NAMES may be told behind the PEOPLE whom they fit, so it is looked only now which there are. */
        int fits(int person) {
            return hasPerson(person) ? fitting[person] & ((1 << names) - 1) : 0;
        }

        boolean needsAt(int person, int h) {
            return hasPerson(person) && h >= firstHours[person] && h <= lastHours[person];
        }

        /** For a text without a fault. */
        void read(Text text) {
            names = 0;
            people = 0;
            for (int at = 1; at < text.size(); at += text.letterAt(at) == 'N' ? NAME_LETTERS : PERSON_LETTERS) {
                if (text.letterAt(at) == 'N') {
                    addName(text.letterAt(at + 1) - '0', text.letterAt(at + 2) - '0');
                } else {
                    addPerson(text.letterAt(at + 1) - '0', text.letterAt(at + 2) - '0', text.letterAt(at + 3) - 'a');
                }
            }
        }

        private void addName(int kind, int worth) {
            if (names < 0 || names >= NAMES) {
                return;
            }
            kinds[names] = kind;
            worths[names] = worth;
            names++;
        }

        private void addPerson(int firstHour, int lastHour, int fits) {
            if (people < 0 || people >= PEOPLE) {
                return;
            }
            firstHours[people] = firstHour;
            lastHours[people] = lastHour;
            fitting[people] = fits;
            people++;
        }
    }

    /** Who wears what, for how long, who and what is gone, who WAITED, and THE HOUR. */
    private static final class Scene {
        static final int CELLS = 3 * PEOPLE + 3;

        private final Plan plan;
        private final int[] worn = new int[PEOPLE];
        private final int[] hoursWorn = new int[PEOPLE];
        private final int[] hoursWaited = new int[PEOPLE];
        private int goneNames;
        private int gonePeople;
        private int hour;

        Scene(Plan plan) {
            this.plan = plan;
            Arrays.fill(worn, NONE);
        }

        void startAnew() {
            hangAll();
            Arrays.fill(hoursWaited, 0);
            goneNames = 0;
            gonePeople = 0;
            hour = 0;
        }

        void hangAll() {
            Arrays.fill(worn, NONE);
            Arrays.fill(hoursWorn, 0);
        }

        void copy(Scene other) {
            System.arraycopy(other.worn, 0, worn, 0, PEOPLE);
            System.arraycopy(other.hoursWorn, 0, hoursWorn, 0, PEOPLE);
            System.arraycopy(other.hoursWaited, 0, hoursWaited, 0, PEOPLE);
            goneNames = other.goneNames;
            gonePeople = other.gonePeople;
            hour = other.hour;
        }

        void save(int[] cells) {
            if (cells.length < CELLS) {
                return;
            }
            System.arraycopy(worn, 0, cells, 0, PEOPLE);
            System.arraycopy(hoursWorn, 0, cells, PEOPLE, PEOPLE);
            System.arraycopy(hoursWaited, 0, cells, 2 * PEOPLE, PEOPLE);
            cells[CELLS - 3] = goneNames;
            cells[CELLS - 2] = gonePeople;
            cells[CELLS - 1] = hour;
        }

        void load(int[] cells) {
            if (cells.length < CELLS) {
                return;
            }
            System.arraycopy(cells, 0, worn, 0, PEOPLE);
            System.arraycopy(cells, PEOPLE, hoursWorn, 0, PEOPLE);
            System.arraycopy(cells, 2 * PEOPLE, hoursWaited, 0, PEOPLE);
            goneNames = cells[CELLS - 3];
            gonePeople = cells[CELLS - 2];
            hour = cells[CELLS - 1];
        }

        int hourNow() {
            return hour;
        }

        int nameOf(int person) {
            return plan.hasPerson(person) ? worn[person] : NONE;
        }

        int hoursWorn(int person) {
            return plan.hasPerson(person) ? hoursWorn[person] : 0;
        }

        int hoursWaited(int person) {
            return plan.hasPerson(person) ? hoursWaited[person] : 0;
        }

        int allWaited() {
            int sum = 0;
            for (int person = 0; person < PEOPLE; person++) {
                sum += hoursWaited[person];
            }
            return sum;
        }

        int goneNames() {
            return goneNames;
        }

        boolean isNameGone(int name) {
            return plan.hasName(name) && (goneNames >> name & 1) == 1;
        }

        boolean isPersonGone(int person) {
            return plan.hasPerson(person) && (gonePeople >> person & 1) == 1;
        }

        int wearers(int name) {
            int bits = 0;
            for (int person = 0; person < PEOPLE; person++) {
                if (worn[person] == name) {
                    bits |= 1 << person;
                }
            }
            return bits;
        }

        /** Nothing fits one that is gone; a NAME that is gone fits on. */
        int fits(int person) {
            return isPersonGone(person) ? 0 : plan.fits(person);
        }

        boolean isFitting(int person, int name) {
            return plan.hasName(name) && !isPersonGone(person) && (plan.fits(person) >> name & 1) == 1;
        }

        boolean needsAt(int person, int h) {
            return plan.needsAt(person, h) && !isPersonGone(person);
        }

        int needingAt(int h) {
            int bits = 0;
            for (int person = 0; person < PEOPLE; person++) {
                if (needsAt(person, h)) {
                    bits |= 1 << person;
                }
            }
            return bits;
        }

        /** To whom a NAME that is not gone may come AT h. */
        int takersAt(int name, int h) {
            int bits = 0;
            for (int person = 0; person < PEOPLE; person++) {
                if (!isNameGone(name) && needsAt(person, h) && isFitting(person, name)) {
                    bits |= 1 << person;
                }
            }
            return bits;
        }

        boolean isSomebody(int person) {
            return plan.hasPerson(person) && (somebodies() >> person & 1) == 1;
        }

        int somebodies() {
            int halves = halvesWorn();
            int bits = 0;
            for (int person = 0; person < PEOPLE; person++) {
                int name = worn[person];
                if (name != NONE && (plan.kind(name) != HALF || (halves & ~(1 << name)) != 0)) {
                    bits |= 1 << person;
                }
            }
            return bits;
        }

        private int halvesWorn() {
            int bits = 0;
            for (int person = 0; person < PEOPLE; person++) {
                int name = worn[person];
                if (name != NONE && plan.kind(name) == HALF) {
                    bits |= 1 << name;
                }
            }
            return bits;
        }

        boolean canTake(int person, int name) {
            return nameOf(person) == NONE && isFitting(person, name) && !isNameGone(name)
                    && Integer.bitCount(wearers(name)) < plan.room(name);
        }

        boolean takes(int person, int name) {
            boolean can = canTake(person, name);
            if (can) {
                putOn(person, name);
            }
            return can;
        }

        boolean hangs(int person) {
            boolean can = nameOf(person) != NONE;
            if (can) {
                takeOff(person);
            }
            return can;
        }

        void putOn(int person, int name) {
            if (plan.hasPerson(person)) {
                worn[person] = name;
                hoursWorn[person] = 0;
            }
        }

        void takeOff(int person) {
            putOn(person, NONE);
        }

        void runOff(int person) {
            int name = nameOf(person);
            if (name == NONE) {
                return;
            }
            goneNames |= 1 << name;
            gonePeople |= 1 << person;
            takeOff(person);
        }

        /** Answers how many were nobody; who is one is looked at before a HEAVY NAME is hung. */
        int passHour() {
            int nobodies = needingAt(hour) & ~somebodies();
            for (int person = 0; person < PEOPLE; person++) {
                hoursWaited[person] += nobodies >> person & 1;
                wearOn(person);
            }
            hour++;
            return Integer.bitCount(nobodies);
        }

        private void wearOn(int person) {
            int name = nameOf(person);
            if (name == NONE) {
                return;
            }
            hoursWorn[person]++;
            if (plan.kind(name) == HEAVY && hoursWorn[person] >= HEAVY_HOURS) {
                takeOff(person);
            }
        }
    }

    /** THE ROW of ACTS: what was ahead of each, in a ring, so that the oldest one is overwritten. */
    private static final class ActRow {
        private final int[][] scenes = new int[ACTS][Scene.CELLS];
        private int oldest;
        private int size;

        int size() {
            return size;
        }

        void clear() {
            oldest = 0;
            size = 0;
        }

        void remember(Scene scene) {
            scene.save(scenes[Math.floorMod(oldest + size, ACTS)]);
            if (size < ACTS) {
                size++;
            } else {
                oldest = Math.floorMod(oldest + 1, ACTS);
            }
        }

        boolean takeBack(Scene scene) {
            if (size < 1) {
                return false;
            }
            size--;
            scene.load(scenes[Math.floorMod(oldest + size, ACTS)]);
            return true;
        }
    }

    /** Scenes that are kept to go on from. */
    private static final class Slots {
        private final int[][] scenes = new int[SLOTS][Scene.CELLS];
        private final boolean[] kept = new boolean[SLOTS];

        boolean has(int slot) {
            return slot >= 0 && slot < SLOTS;
        }

        void clear() {
            for (int slot = 0; slot < SLOTS; slot++) {
                kept[slot] = false;
            }
        }

        boolean store(int slot, Scene scene) {
            if (!has(slot)) {
                return false;
            }
            scene.save(scenes[slot]);
            kept[slot] = true;
            return true;
        }

        boolean load(int slot, Scene scene) {
            if (!has(slot) || !kept[slot]) {
                return false;
            }
            scene.load(scenes[slot]);
            return true;
        }
    }

    /** SEEN and DEEDS as bits of HOURS; those of PEOPLE and NAMES that there are not stay and say nothing. */
    private static final class Clues {
        private final int[] seenHours = new int[PEOPLE];
        private final int[] deedHours = new int[NAMES];
        private int size;

        int size() {
            return size;
        }

        int clear() {
            int was = size;
            Arrays.fill(seenHours, 0);
            Arrays.fill(deedHours, 0);
            size = 0;
            return was;
        }

        boolean addSeen(int person, int h) {
            return add(seenHours, person, h);
        }

        boolean addDeed(int name, int h) {
            return add(deedHours, name, h);
        }

        private boolean add(int[] hours, int whose, int h) {
            if (size >= CLUES || whose < 0 || whose >= hours.length) {
                return false;
            }
            hours[whose] |= 1 << h;
            size++;
            return true;
        }

        int suspects(Scene scene, Plan plan, int name) {
            int bits = 0;
            for (int person = 0; person < PEOPLE; person++) {
                if (scene.isFitting(person, name) && couldDoAll(plan, person, name)) {
                    bits |= 1 << person;
                }
            }
            return bits;
        }

        private boolean couldDoAll(Plan plan, int person, int name) {
            if (name < 0 || name >= NAMES || person < 0 || person >= PEOPLE) {
                return false;
            }
            for (int h = 0; h < HOURS; h++) {
                boolean isDeed = (deedHours[name] >> h & 1) == 1;
                boolean isSeen = (seenHours[person] >> h & 1) == 1;
                if (isDeed && (isSeen || !plan.needsAt(person, h))) {
                    return false;
                }
            }
            return true;
        }
    }

    /** MOST: NAMES given to PEOPLE that NEED one AT an HOUR. */
    private static final class Giving {
        private final Plan plan;
        private final int[] wanted = new int[PEOPLE];
        private final int[] room = new int[NAMES];

        Giving(Plan plan) {
            this.plan = plan;
        }

        /** Only the NAMES among these bits are there, less those that are gone. */
        void prepare(Scene scene, int h, int names) {
            int there = names & ~scene.goneNames();
            for (int person = 0; person < PEOPLE; person++) {
                wanted[person] = scene.needsAt(person, h) ? scene.fits(person) & there : 0;
            }
            for (int name = 0; name < NAMES; name++) {
                room[name] = plan.room(name);
            }
        }

        int greatest() {
            return greatestFrom(0);
        }

        /**
         * The least cut is the greatest flow: whichever NAMES are used up, at most their ROOM is given,
         * and one to each that wants still another.
         */
        private int greatestFrom(int firstPerson) {
            int least = PEOPLE;
            for (int usedUp = 0; usedUp < NAME_SETS; usedUp++) {
                least = Math.min(least, roomOf(usedUp) + wantingBeyond(usedUp, firstPerson));
            }
            return least;
        }

        private int roomOf(int names) {
            int sum = 0;
            for (int name = 0; name < NAMES; name++) {
                sum += (names >> name & 1) * room[name];
            }
            return sum;
        }

        private int wantingBeyond(int names, int firstPerson) {
            int sum = 0;
            for (int person = Math.max(0, firstPerson); person < PEOPLE; person++) {
                sum += (wanted[person] & ~names) != 0 ? 1 : 0;
            }
            return sum;
        }

        /** Each figure is the least one that leaves the rest enough, so the whole is least, too. */
        int firstWay() {
            int way = 0;
            int left = greatest();
            for (int person = 0; person < plan.people(); person++) {
                int figure = giveTo(person, left);
                left -= figure > 0 ? 1 : 0;
                way = 10 * way + figure;
            }
            return way;
        }

        private int giveTo(int person, int left) {
            if (person < 0 || person >= PEOPLE || greatestFrom(person + 1) >= left) {
                return 0;
            }
            for (int name = 0; name < NAMES; name++) {
                if ((wanted[person] >> name & 1) == 1 && room[name] > 0) {
                    room[name]--;
                    if (greatestFrom(person + 1) >= left - 1) {
                        return name + 1;
                    }
                    room[name]++;
                }
            }
            return 0;
        }
    }

    /** FIRE: the most worth that PEOPLE from one on save of a set of NAMES, for all of both. */
    private static final class Rescue {
        private final Plan plan;
        private final int[][] best = new int[PEOPLE + 1][NAME_SETS];
        private final int[] fits = new int[PEOPLE];
        private int there;

        Rescue(Plan plan) {
            this.plan = plan;
        }

        void prepare(Scene scene) {
            there = ((1 << plan.names()) - 1) & ~scene.goneNames() & (NAME_SETS - 1);
            for (int person = PEOPLE - 1; person >= 0; person--) {
                fits[person] = scene.fits(person);
                for (int names = 0; names < NAME_SETS; names++) {
                    best[person][names] = bestOf(person, names);
                }
            }
        }

        private int bestOf(int person, int names) {
            int greatest = 0;
            for (int figure = 0; figure <= NAMES; figure++) {
                greatest = Math.max(greatest, worthBy(person, names, figure));
            }
            return greatest;
        }

        /** NONE, which is less than any worth, if the PERSON can not save so. */
        private int worthBy(int person, int names, int figure) {
            if (person < 0 || person >= PEOPLE || names < 0 || names >= NAME_SETS) {
                return NONE;
            }
            if (figure == 0) {
                return best[person + 1][names];
            }
            int bit = 1 << (figure - 1);
            if ((names & fits[person] & bit) == 0) {
                return NONE;
            }
            return plan.worth(figure - 1) + best[person + 1][names & ~bit];
        }

        int greatest() {
            return best[0][there];
        }

        int firstWay() {
            int way = 0;
            int names = there;
            for (int person = 0; person < plan.people(); person++) {
                int figure = firstFigure(person, names);
                if (figure > 0) {
                    names &= ~(1 << (figure - 1));
                }
                way = 10 * way + figure;
            }
            return way;
        }

        private int firstFigure(int person, int names) {
            int greatest = bestOf(person, names);
            for (int figure = 0; figure <= NAMES; figure++) {
                if (worthBy(person, names, figure) == greatest) {
                    return figure;
                }
            }
            return 0;
        }
    }

    /** RESTS: two that bid for one NAME. */
    private static final class Bidding {
        private int worth;
        private boolean fitsOne;
        private boolean fitsOther;

        void prepare(int worthOfName, boolean isFittingOne, boolean isFittingOther) {
            worth = worthOfName;
            fitsOne = isFittingOne;
            fitsOther = isFittingOther;
        }

        int countRests() {
            int sum = 0;
            for (int one = 0; one < BIDS; one++) {
                for (int other = 0; other < BIDS; other++) {
                    sum += isRest(one, other) ? 1 : 0;
                }
            }
            return sum;
        }

        int firstRest() {
            for (int one = 0; one < BIDS; one++) {
                for (int other = 0; other < BIDS; other++) {
                    if (isRest(one, other)) {
                        return 10 * one + other;
                    }
                }
            }
            return NONE;
        }

        private boolean isRest(int one, int other) {
            for (int bid = 0; bid < BIDS; bid++) {
                if (gainOfOne(bid, other) > gainOfOne(one, other)
                        || gainOfOther(one, bid) > gainOfOther(one, other)) {
                    return false;
                }
            }
            return true;
        }

        private int gainOfOne(int one, int other) {
            return gainBy(one, fitsOne && (one >= other || !fitsOther));
        }

        private int gainOfOther(int one, int other) {
            return gainBy(other, fitsOther && (other > one || !fitsOne));
        }

        private int gainBy(int bid, boolean hasIt) {
            if (hasIt) {
                return worth - bid;
            }
            return bid > 0 ? -1 : 0;
        }
    }
}
