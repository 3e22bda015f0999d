import java.util.ArrayDeque;
import java.util.ArrayList;
import java.util.Deque;
import java.util.List;

/**
 * The document again, as slowly and plainly as can be: every way is tried, every order, every chance.
 * Nothing of it is taken from the class, so that the two can be held against each other.
 */
final class Model {
    private static final int UNKNOWN = -1, OUTSIDE = -2, STATE = -3, FULL = -4, NONE = -9;

    private record Name(int kind, int worth) {
    }

    private record Person(int a, int b, int m) {
    }

    private record Clue(boolean isDeed, int whose, int h) {
    }

    private static final class World {
        Integer[] wears = new Integer[5];
        int[] since = new int[5];
        int[] waited = new int[5];
        boolean[] nameGone = new boolean[4];
        boolean[] personGone = new boolean[5];
        int hour;

        World copy() {
            World w = new World();
            w.wears = wears.clone();
            w.since = since.clone();
            w.waited = waited.clone();
            w.nameGone = nameGone.clone();
            w.personGone = personGone.clone();
            w.hour = hour;
            return w;
        }
    }

    private final StringBuilder text = new StringBuilder();
    private List<Name> names = new ArrayList<>();
    private List<Person> people = new ArrayList<>();
    private World world = new World();
    private final Deque<World> row = new ArrayDeque<>();
    private final World[] slots = new World[2];
    private final List<Clue> clues = new ArrayList<>();
    private long seed;

    // ---- the hall

    int write(int letter) {
        if (letter < 0 || letter > 255) return OUTSIDE;
        if (text.length() == 40) return FULL;
        text.append((char) letter);
        return text.length();
    }

    int wipe() {
        int was = text.length();
        text.setLength(0);
        return was;
    }

    /** A prefix can become a HALL if it is one of these patterns and keeps the counts; tried prefix by prefix. */
    private static boolean canBecome(String s) {
        if (!s.matches("(?s)(H(N[0-3][1-9]|P[0-9][0-9][a-p])*(N[0-3]?|P[0-9]{0,2})?)?")) return false;
        int names = 0;
        int people = 0;
        for (int i = 0; i < s.length(); i++) {
            if (s.charAt(i) == 'N') names++;
            if (s.charAt(i) == 'P') {
                people++;
                if (i + 2 < s.length() && s.charAt(i + 2) < s.charAt(i + 1)) return false;
            }
        }
        return names <= 4 && people <= 5;
    }

    int fault() {
        for (int i = 1; i <= text.length(); i++) {
            if (!canBecome(text.substring(0, i))) return i - 1;
        }
        boolean whole = text.toString().matches("H(N..|P...)*");
        return whole ? NONE : text.length();
    }

    int hall() {
        if (fault() != NONE) return STATE;
        names = new ArrayList<>();
        people = new ArrayList<>();
        int at = 1;
        while (at < text.length()) {
            if (text.charAt(at) == 'N') {
                names.add(new Name(text.charAt(at + 1) - '0', text.charAt(at + 2) - '0'));
                at += 3;
            } else {
                people.add(new Person(text.charAt(at + 1) - '0', text.charAt(at + 2) - '0', text.charAt(at + 3) - 'a'));
                at += 4;
            }
        }
        world = new World();
        row.clear();
        slots[0] = null;
        slots[1] = null;
        return 10 * names.size() + people.size();
    }

    private boolean isName(int n) {
        return n >= 0 && n < names.size();
    }

    private boolean isPerson(int p) {
        return p >= 0 && p < people.size();
    }

    int name(int n, int what) {
        if (!isName(n)) return UNKNOWN;
        if (what == 0) return names.get(n).kind;
        if (what == 1) return names.get(n).worth;
        if (what == 2) return bitsOfWearers(world, n);
        if (what == 3) return world.nameGone[n] ? 1 : 0;
        return OUTSIDE;
    }

    int person(int p, int what) {
        if (!isPerson(p)) return UNKNOWN;
        if (what == 0) return people.get(p).a;
        if (what == 1) return people.get(p).b;
        if (what == 2) return people.get(p).m % (1 << names.size());
        if (what == 3) return world.wears[p] == null ? NONE : world.wears[p];
        if (what == 4) return world.since[p];
        if (what == 5) return world.waited[p];
        if (what == 6) return somebody(world, p) ? 1 : 0;
        if (what == 7) return world.personGone[p] ? 1 : 0;
        return OUTSIDE;
    }

    // ---- acts

    private static int bitsOfWearers(World w, int n) {
        int bits = 0;
        for (int p = 0; p < 5; p++) {
            if (w.wears[p] != null && w.wears[p] == n) bits += 1 << p;
        }
        return bits;
    }

    private boolean somebody(World w, int p) {
        if (w.wears[p] == null) return false;
        if (names.get(w.wears[p]).kind != 1) return true;
        for (int q = 0; q < 5; q++) {
            if (w.wears[q] != null && names.get(w.wears[q]).kind == 1 && !w.wears[q].equals(w.wears[p])) return true;
        }
        return false;
    }

    private boolean fitsTold(int p, int n) {
        return (people.get(p).m >> n) % 2 == 1;
    }

    private boolean needs(World w, int p, int h) {
        return !w.personGone[p] && people.get(p).a <= h && h <= people.get(p).b;
    }

    private boolean tryTake(World w, int p, int n) {
        if (!isPerson(p) || !isName(n) || w.personGone[p] || w.nameGone[n] || w.wears[p] != null || !fitsTold(p, n)) {
            return false;
        }
        int room = names.get(n).kind == 2 ? 2 : 1;
        if (Integer.bitCount(bitsOfWearers(w, n)) >= room) return false;
        w.wears[p] = n;
        w.since[p] = 0;
        return true;
    }

    private boolean tryHang(World w, int p) {
        if (!isPerson(p) || w.wears[p] == null) return false;
        w.wears[p] = null;
        w.since[p] = 0;
        return true;
    }

    private int hourIn(World w) {
        int nobodies = 0;
        for (int p = 0; p < people.size(); p++) {
            if (needs(w, p, w.hour) && !somebody(w, p)) {
                w.waited[p]++;
                nobodies++;
            }
        }
        for (int p = 0; p < people.size(); p++) {
            if (w.wears[p] != null) w.since[p]++;
        }
        for (int p = 0; p < people.size(); p++) {
            if (w.wears[p] != null && names.get(w.wears[p]).kind == 3 && w.since[p] == 3) tryHang(w, p);
        }
        w.hour++;
        return nobodies;
    }

    private void act() {
        row.addLast(world.copy());
        if (row.size() > 14) row.removeFirst();
    }

    int take(int p, int n) {
        if (!isPerson(p) || !isName(n)) return UNKNOWN;
        if (!tryTake(world.copy(), p, n)) return STATE;
        act();
        tryTake(world, p, n);
        return Integer.bitCount(bitsOfWearers(world, n));
    }

    int hang(int p) {
        if (!isPerson(p)) return UNKNOWN;
        if (world.wears[p] == null) return STATE;
        int was = world.wears[p];
        act();
        tryHang(world, p);
        return was;
    }

    int hour() {
        act();
        return hourIn(world);
    }

    int run(int p) {
        if (!isPerson(p)) return UNKNOWN;
        if (world.wears[p] == null) return STATE;
        int was = world.wears[p];
        act();
        tryHang(world, p);
        world.personGone[p] = true;
        world.nameGone[was] = true;
        return was;
    }

    int undo() {
        if (row.isEmpty()) return STATE;
        world = row.removeLast();
        return row.size();
    }

    // ---- somebody

    /** All ways in the order of their numbers; each is a figure for each PERSON. */
    private List<int[]> allWays() {
        List<int[]> ways = new ArrayList<>();
        ways.add(new int[people.size()]);
        for (int p = people.size() - 1; p >= 0; p--) {
            List<int[]> more = new ArrayList<>();
            for (int figure = 0; figure <= names.size(); figure++) {
                for (int[] way : ways) {
                    int[] w = way.clone();
                    w[p] = figure;
                    more.add(w);
                }
            }
            ways = more;
        }
        return ways;
    }

    private static int number(int[] way) {
        int x = 0;
        for (int figure : way) x = 10 * x + figure;
        return x;
    }

    private boolean canGive(int[] way, int h, int there) {
        int[] given = new int[4];
        for (int p = 0; p < way.length; p++) {
            if (way[p] == 0) continue;
            int n = way[p] - 1;
            if (!needs(world, p, h) || !fitsTold(p, n) || world.nameGone[n] || (there >> n) % 2 == 0) return false;
            if (++given[n] > (names.get(n).kind == 2 ? 2 : 1)) return false;
        }
        return true;
    }

    private int[] bestGiving(int h, int there) {
        int most = -1;
        int[] best = null;
        for (int[] way : allWays()) {
            int given = 0;
            for (int figure : way) given += figure > 0 ? 1 : 0;
            if (given > most && canGive(way, h, there)) {
                most = given;
                best = way;
            }
        }
        return new int[] {most, number(best)};
    }

    private static boolean isHour(int h) {
        return h >= 0 && h <= 9;
    }

    int most(int h, boolean way) {
        return isHour(h) ? bestGiving(h, 15)[way ? 1 : 0] : OUTSIDE;
    }

    int waiting(int a, int b) {
        if (!isHour(a) || !isHour(b) || a > b) return OUTSIDE;
        int sum = 0;
        for (int h = a; h <= b; h++) {
            for (int p = 0; p < people.size(); p++) sum += needs(world, p, h) ? 1 : 0;
            sum -= bestGiving(h, 15)[0];
        }
        return sum;
    }

    int first() {
        for (int h = 0; h <= 9; h++) {
            if (waiting(h, h) > 0) return h;
        }
        return NONE;
    }

    int fire(boolean asWay) {
        int most = -1;
        int[] best = null;
        for (int[] way : allWays()) {
            int worth = worthSaved(way);
            if (worth > most) {
                most = worth;
                best = way;
            }
        }
        return asWay ? number(best) : most;
    }

    private int worthSaved(int[] way) {
        int worth = 0;
        boolean[] saved = new boolean[4];
        for (int p = 0; p < way.length; p++) {
            if (way[p] == 0) continue;
            int n = way[p] - 1;
            if (world.personGone[p] || world.nameGone[n] || !fitsTold(p, n) || saved[n]) return -1;
            saved[n] = true;
            worth += names.get(n).worth;
        }
        return worth;
    }

    int judge(int n, int told) {
        if (n < 1 || n > 4 || told < 0 || String.valueOf(told).length() > 2 * n) return OUTSIDE;
        String figures = ("00000000" + told);
        figures = figures.substring(figures.length() - 2 * n);
        World w = world.copy();
        for (int p = 0; p < 5; p++) tryHang(w, p);
        for (int i = 0; i < n; i++) {
            int p = figures.charAt(2 * i) - '0';
            int name = figures.charAt(2 * i + 1) - '0';
            boolean can;
            if (p == 0 && name == 0) {
                hourIn(w);
                can = true;
            } else if (p == 0) {
                can = false;
            } else if (name == 0) {
                can = tryHang(w, p - 1);
            } else {
                can = tryTake(w, p - 1, name - 1);
            }
            if (!can) return i;
        }
        return NONE;
    }

    // ---- who did it

    int see(int p, int h) {
        return isPerson(p) ? clue(new Clue(false, p, h)) : UNKNOWN;
    }

    int deed(int n, int h) {
        return isName(n) ? clue(new Clue(true, n, h)) : UNKNOWN;
    }

    private int clue(Clue clue) {
        if (!isHour(clue.h)) return OUTSIDE;
        if (clues.size() == 6) return FULL;
        clues.add(clue);
        return clues.size();
    }

    int forget() {
        int was = clues.size();
        clues.clear();
        return was;
    }

    int who(int n) {
        if (!isName(n)) return UNKNOWN;
        int bits = 0;
        for (int p = 0; p < people.size(); p++) {
            boolean may = fitsTold(p, n) && !world.personGone[p];
            for (Clue deed : clues) {
                if (!deed.isDeed || deed.whose != n) continue;
                may &= needs(world, p, deed.h) && !clues.contains(new Clue(false, p, deed.h));
            }
            bits += may ? 1 << p : 0;
        }
        return bits;
    }

    // ---- shares, rests, chances

    private static int least(long above, long below, boolean upper) {
        for (long d = 2; d <= below; d++) {
            while (above % d == 0 && below % d == 0) {
                above /= d;
                below /= d;
            }
        }
        return (int) (upper ? above : below);
    }

    int share(int n, int h, boolean upper) {
        if (!isName(n)) return UNKNOWN;
        if (!isHour(h)) return OUTSIDE;
        int[] most = new int[16];
        for (int there = 0; there < 16; there++) most[there] = bestGiving(h, there)[0];
        int[] sum = new int[2];
        allOrders(new ArrayList<>(), n, most, sum);
        return least(sum[0], sum[1], upper);
    }

    private void allOrders(List<Integer> come, int n, int[] most, int[] sum) {
        if (come.size() == names.size()) {
            int there = 0;
            for (int next : come) {
                if (next == n) sum[0] += most[there | 1 << n] - most[there];
                there |= 1 << next;
            }
            sum[1]++;
            return;
        }
        for (int next = 0; next < names.size(); next++) {
            if (come.contains(next)) continue;
            come.add(next);
            allOrders(come, n, most, sum);
            come.remove(come.size() - 1);
        }
    }

    int rests(int one, int other, int n, int what) {
        if (!isPerson(one) || !isPerson(other) || !isName(n)) return UNKNOWN;
        if (one == other || what < 0 || what > 1) return OUTSIDE;
        int found = 0;
        int first = NONE;
        for (int x = 0; x <= 4; x++) {
            for (int y = 0; y <= 4; y++) {
                boolean rest = true;
                int[] now = gains(one, other, n, x, y);
                for (int z = 0; z <= 4; z++) {
                    rest &= gains(one, other, n, z, y)[0] <= now[0] && gains(one, other, n, x, z)[1] <= now[1];
                }
                if (!rest) continue;
                found++;
                if (first == NONE) first = 10 * x + y;
            }
        }
        return what == 0 ? found : first;
    }

    private int[] gains(int one, int other, int n, int x, int y) {
        int[] who = x >= y ? new int[] {one, other} : new int[] {other, one};
        int has = NONE;
        if (!world.personGone[who[0]] && fitsTold(who[0], n)) {
            has = who[0];
        } else if (!world.personGone[who[1]] && fitsTold(who[1], n)) {
            has = who[1];
        }
        int worth = names.get(n).worth;
        int gainOne = has == one ? worth - x : x >= 1 ? -1 : 0;
        int gainOther = has == other ? worth - y : y >= 1 ? -1 : 0;
        return new int[] {gainOne, gainOther};
    }

    int letter(int p, int h, boolean upper) {
        if (!isPerson(p)) return UNKNOWN;
        if (!isHour(h)) return OUTSIDE;
        long[] sums = new long[2];
        allLetters(0, false, p, h, sums);
        return least(sums[0], sums[1], upper);
    }

    private void allLetters(int n, boolean has, int p, int h, long[] sums) {
        if (n == names.size()) {
            sums[0] += has ? 1 : 0;
            sums[1]++;
            return;
        }
        boolean any = false;
        for (int q = 0; q < people.size(); q++) {
            if (!world.nameGone[n] && needs(world, q, h) && fitsTold(q, n)) {
                any = true;
                allLetters(n + 1, has || q == p, p, h, sums);
            }
        }
        if (!any) allLetters(n + 1, has, p, h, sums);
    }

    long seed(long v) {
        long was = seed;
        seed = v;
        return was;
    }

    int days(int m) {
        if (m < 1 || m > 30) return OUTSIDE;
        World w = world.copy();
        for (int i = 0; i < m; i++) {
            seed = seed * 6364136223846793005L + 1442695040888963407L;
            long left = Long.remainderUnsigned(Long.divideUnsigned(seed, 1L << 33), 30);
            int what = (int) left / 5;
            int p = (int) left % 5;
            if (what <= 3) tryTake(w, p, what);
            if (what == 5) tryHang(w, p);
            hourIn(w);
        }
        int more = 0;
        for (int p = 0; p < 5; p++) more += w.waited[p] - world.waited[p];
        return more;
    }

    // ---- slots

    int keep(int slot) {
        if (slot != 0 && slot != 1) return UNKNOWN;
        slots[slot] = world.copy();
        return world.hour;
    }

    int again(int slot) {
        if (slot != 0 && slot != 1) return UNKNOWN;
        if (slots[slot] == null) return STATE;
        world = slots[slot].copy();
        row.clear();
        return world.hour;
    }

    int count(int what) {
        int bits = 0;
        int waited = 0;
        for (int p = 0; p < people.size(); p++) {
            boolean in = what == 4 && needs(world, p, world.hour) || what == 5 && somebody(world, p);
            bits += in ? 1 << p : 0;
            waited += world.waited[p];
        }
        return switch (what) {
            case 0 -> text.length();
            case 1 -> names.size();
            case 2 -> people.size();
            case 3 -> world.hour;
            case 4, 5 -> bits;
            case 6 -> waited;
            case 7 -> row.size();
            case 8 -> clues.size();
            default -> OUTSIDE;
        };
    }
}
