import java.math.BigInteger;
import java.util.ArrayList;
import java.util.List;
import java.util.Random;
import java.util.regex.Matcher;
import java.util.regex.Pattern;

/**
 * Long runs of calls, drawn by a fixed seed, against a second model that is written from the document's
 * words alone: it tries out all plans and all sneezes, one by one, and reads THE TEXT by patterns.
 */
public final class ModelTest {
    private static final int UNKNOWN = -1, OUTSIDE = -2, STATE = -3, FULL = -4, NONE = -9;
    private static int wrong = 0;
    private static long calls = 0;

    private static final class Person implements Cloneable {
        int lungs, force, pipe, phase;
        boolean bribed;

        Person copy() {
            try {
                return (Person) clone();
            } catch (CloneNotSupportedException e) {
                throw new IllegalStateException(e);
            }
        }

        int gives(int time) {
            return !bribed && (time + phase) % (lungs + 1) == lungs ? 0 : force;
        }
    }

    private static final class Kept {
        final List<Person> people;
        final int late, c;

        Kept(List<Person> people, int late, int c) {
            this.people = copies(people);
            this.late = late;
            this.c = c;
        }
    }

    private static List<Person> copies(List<Person> people) {
        List<Person> all = new ArrayList<>();
        for (Person p : people) {
            all.add(p.copy());
        }
        return all;
    }

    private static final class Model {
        String text = "";
        int[] drinks = {1};
        boolean[][] sounds = {};
        List<Person> people = new ArrayList<>();
        int late, c;
        Kept[] slots = new Kept[2];

        static final Pattern[] ORGANS = new Pattern[7];

        static {
            for (int n = 1; n <= 6; n++) {
                int low = n >= 3 ? 7 : (1 << n) - 1;
                int high = n <= 3 ? 0 : (1 << n - 3) - 1;
                ORGANS[n] = Pattern.compile("O[1-9]{" + n + "}(M[1-9][1-3][0-" + (n - 1) + "]){0,12}(/([0-" + low + "][0-"
                        + high + "]){1,24})?");
            }
        }

        int fault() {
            for (int end = 0; end <= text.length(); end++) {
                boolean can = false;
                for (int n = 1; n <= 6; n++) {
                    Matcher m = ORGANS[n].matcher(text.substring(0, end));
                    can |= m.matches() || m.hitEnd();
                }
                if (!can) {
                    return end - 1;
                }
            }
            for (int n = 1; n <= 6; n++) {
                if (ORGANS[n].matcher(text).matches()) {
                    return NONE;
                }
            }
            return text.length();
        }

        int organ() {
            if (fault() != NONE) {
                return STATE;
            }
            String[] halves = text.split("/");
            String[] parts = halves[0].split("M");
            drinks = new int[parts[0].length() - 1];
            for (int i = 0; i < drinks.length; i++) {
                drinks[i] = parts[0].charAt(i + 1) - '0';
            }
            people.clear();
            for (int i = 1; i < parts.length; i++) {
                Person p = new Person();
                p.lungs = parts[i].charAt(0) - '0';
                p.force = parts[i].charAt(1) - '0';
                p.pipe = parts[i].charAt(2) - '0';
                people.add(p);
            }
            sounds = new boolean[halves.length == 1 ? 0 : halves[1].length() / 2][6];
            for (int j = 0; j < sounds.length; j++) {
                for (int i = 0; i < 6; i++) {
                    sounds[j][i] = (halves[1].charAt(2 * j + i / 3) - '0' & 1 << i % 3) != 0;
                }
            }
            late = 0;
            c = 0;
            slots = new Kept[2];
            return 100 * drinks.length + people.size();
        }

        int[][] play(int pipe, List<Person> folk, int from) {
            int[][] told = new int[3][sounds.length];
            int store = 0;
            for (int j = 0; j < sounds.length; j++) {
                int air = 0;
                for (Person p : folk) {
                    if (p.pipe == pipe) {
                        air += p.gives(j + from);
                    }
                }
                told[0][j] = air;
                if (!sounds[j][pipe]) {
                    store = Math.min(c, store + air);
                } else if (air + store >= drinks[pipe]) {
                    store = Math.min(c, air + store - drinks[pipe]);
                } else {
                    told[2][j] = drinks[pipe] - air - store;
                    store = 0;
                }
                told[1][j] = store;
            }
            return told;
        }

        int together(int pipe, List<Person> folk, int from) {
            int sum = 0;
            for (int s : play(pipe, folk, from)[2]) {
                sum += s;
            }
            return sum;
        }

        int total(List<Person> folk, int from) {
            int sum = 0;
            for (int i = 0; i < drinks.length; i++) {
                sum += together(i, folk, from);
            }
            return sum;
        }

        boolean pipe(int i) {
            return i >= 0 && i < drinks.length;
        }

        boolean beat(int j) {
            return j >= 0 && j < sounds.length;
        }

        boolean person(int i) {
            return i >= 0 && i < people.size();
        }

        int first() {
            for (int j = 0; j < sounds.length; j++) {
                for (int i = 0; i < drinks.length; i++) {
                    if (play(i, people, late)[2][j] > 0) {
                        return 10 * j + i;
                    }
                }
            }
            return NONE;
        }

        int worst() {
            int found = NONE;
            for (int i = drinks.length - 1; i >= 0; i--) {
                int sum = together(i, people, late);
                if (sum > 0 && (found == NONE || sum >= together(found, people, late))) {
                    found = i;
                }
            }
            return found;
        }

        int bestLate() {
            int found = 11;
            for (int k = 10; k >= 0; k--) {
                if (total(people, k) <= total(people, found)) {
                    found = k;
                }
            }
            return found;
        }

        /** SAGS together, then PHASES; null: too many. */
        int[] phases(int pipe) {
            List<Person> folk = new ArrayList<>();
            long all = 1;
            for (Person p : copies(people)) {
                if (p.pipe == pipe) {
                    folk.add(p);
                    all *= p.lungs + 1;
                }
            }
            if (folk.size() > 4) {
                return null;
            }
            int[] best = null;
            for (long n = 0; n < all; n++) {
                long rest = n;
                for (int i = folk.size() - 1; i >= 0; i--) {
                    folk.get(i).phase = (int) (rest % (folk.get(i).lungs + 1));
                    rest /= folk.get(i).lungs + 1;
                }
                int sum = together(pipe, folk, late);
                if (best == null || sum < best[0]) {
                    best = new int[folk.size() + 1];
                    best[0] = sum;
                    for (int i = 0; i < folk.size(); i++) {
                        best[i + 1] = folk.get(i).phase;
                    }
                }
            }
            return best;
        }

        /** TOTAL, then seats; null: too many. */
        int[] seats() {
            if (people.size() > 6) {
                return null;
            }
            List<Person> folk = copies(people);
            int[] best = null;
            long all = Math.round(Math.pow(drinks.length, folk.size()));
            for (long n = 0; n < all; n++) {
                long rest = n;
                for (int i = folk.size() - 1; i >= 0; i--) {
                    folk.get(i).pipe = (int) (rest % drinks.length);
                    rest /= drinks.length;
                }
                int sum = total(folk, late);
                if (best == null || sum < best[0]) {
                    best = new int[folk.size() + 1];
                    best[0] = sum;
                    for (int i = 0; i < folk.size(); i++) {
                        best[i + 1] = folk.get(i).pipe;
                    }
                }
            }
            return best;
        }

        int bribes() {
            int best = NONE;
            for (int set = 0; set < 1 << people.size(); set++) {
                List<Person> folk = copies(people);
                boolean twice = false;
                for (int i = 0; i < folk.size(); i++) {
                    if ((set & 1 << i) != 0) {
                        twice |= folk.get(i).bribed;
                        folk.get(i).bribed = true;
                    }
                }
                if (!twice && (best == NONE || Integer.bitCount(set) < Integer.bitCount(best)) && total(folk, late) == 0) {
                    best = set;
                }
            }
            return best;
        }

        int needed(int person) {
            List<Person> folk = copies(people);
            folk.remove(person);
            return total(folk, late) - total(people, late);
        }

        int never() {
            for (int j = 0; j < sounds.length; j++) {
                for (int i = 0; i < drinks.length; i++) {
                    int sum = c;
                    for (Person p : people) {
                        sum += p.pipe == i ? p.force : 0;
                    }
                    if (sounds[j][i] && drinks[i] > sum) {
                        return 10 * j + i;
                    }
                }
            }
            return NONE;
        }

        /** Cases in which a PIPE gets less, in all, and those of them in which a PERSON sneezed. */
        BigInteger[] cases(int pipe, int beat, int x, int person) {
            List<Integer> givers = new ArrayList<>();
            for (int i = 0; i < people.size(); i++) {
                if (people.get(i).pipe == pipe && people.get(i).gives(beat + late) > 0) {
                    givers.add(i);
                }
            }
            BigInteger less = BigInteger.ZERO;
            BigInteger guilty = BigInteger.ZERO;
            for (int set = 0; set < 1 << givers.size(); set++) {
                int air = 0;
                boolean did = false;
                BigInteger weight = BigInteger.ONE;
                for (int k = 0; k < givers.size(); k++) {
                    boolean sneezes = (set & 1 << k) != 0;
                    weight = weight.multiply(BigInteger.valueOf(sneezes ? x : 10 - x));
                    air += sneezes ? 0 : people.get(givers.get(k)).force;
                    did |= sneezes && givers.get(k) == person;
                }
                if (air < drinks[pipe]) {
                    less = less.add(weight);
                    guilty = did ? guilty.add(weight) : guilty;
                }
            }
            return new BigInteger[] {BigInteger.TEN.pow(givers.size()), less, guilty};
        }

        static long told(BigInteger above, BigInteger below, boolean upper) {
            BigInteger common = above.gcd(below);
            return (upper ? above : below).divide(common).longValueExact();
        }

        long steady(int pipe, int beat, int x, boolean upper) {
            if (!pipe(pipe) || !beat(beat)) {
                return UNKNOWN;
            }
            if (x < 0 || x > 10) {
                return OUTSIDE;
            }
            BigInteger[] n = cases(pipe, beat, x, -1);
            return told(n[0].subtract(n[1]), n[0], upper);
        }

        long blame(int person, int beat, int x, boolean upper) {
            if (!person(person) || !beat(beat)) {
                return UNKNOWN;
            }
            if (x < 0 || x > 10) {
                return OUTSIDE;
            }
            BigInteger[] n = cases(people.get(person).pipe, beat, x, person);
            return n[1].signum() == 0 ? STATE : told(n[2], n[1], upper);
        }
    }

    private static void due(String call, long got, long want, Model m) {
        calls++;
        if (got != want) {
            wrong++;
            if (wrong <= 20) {
                System.out.println(call + " answered " + got + ", due is " + want + "; the text is " + m.text);
            }
        }
    }

    private static int about(Random r, int n) {
        int kind = r.nextInt(40);
        return kind == 0 ? Integer.MIN_VALUE : kind == 1 ? Integer.MAX_VALUE : kind == 2 ? -1 : kind == 3 ? n
                : n == 0 ? 0 : r.nextInt(n);
    }

    private static String drawn(Random r, int mostPeople, int mostLungs, int mostBeats) {
        int pipes = 1 + r.nextInt(6);
        StringBuilder s = new StringBuilder("O");
        int thirst = 1 + r.nextInt(9);
        for (int i = 0; i < pipes; i++) {
            s.append(1 + r.nextInt(thirst));
        }
        int people = r.nextInt(mostPeople + 1);
        int used = 1 + r.nextInt(pipes);
        for (int i = 0; i < people; i++) {
            s.append('M').append(1 + r.nextInt(mostLungs)).append(1 + r.nextInt(3)).append(r.nextInt(used));
        }
        int beats = r.nextInt(mostBeats + 1);
        if (beats > 0) {
            s.append('/');
        }
        int rests = r.nextInt(3);
        for (int j = 0; j < beats; j++) {
            int bits = rests == 1 && r.nextBoolean() ? 0 : rests == 2 ? 63 : r.nextInt(64);
            bits &= (1 << pipes) - 1;
            s.append(bits & 7).append(bits >> 3);
        }
        return s.toString();
    }

    private static String spoilt(Random r, String text) {
        StringBuilder s = new StringBuilder(text);
        int at = r.nextInt(s.length());
        char sign = r.nextInt(4) == 0 ? (char) r.nextInt(256) : "OM/0123456789".charAt(r.nextInt(13));
        switch (r.nextInt(4)) {
            case 0: s.setCharAt(at, sign); break;
            case 1: s.insert(at, sign); break;
            case 2: s.deleteCharAt(at); break;
            default: s.setLength(at); break;
        }
        return s.toString();
    }

    private static void writeSome(BlownByAll x, Model m, Random r, String text) {
        due("wipe()", x.wipe(), m.text.length(), m);
        m.text = "";
        for (int at = 0; at < text.length();) {
            int n = Math.min(1 + r.nextInt(8), text.length() - at);
            long v = r.nextLong();
            for (int i = 0; i < n; i++) {
                v = v << 8 | text.charAt(at + i);
            }
            boolean full = m.text.length() + n > 104;
            m.text = full ? m.text : m.text + text.substring(at, at + n);
            due("write(" + n + ", " + v + ")", x.write(n, v), full ? FULL : m.text.length(), m);
            at += n;
        }
        due("fault()", x.fault(), m.fault(), m);
    }

    private static void tell(BlownByAll x, Model m, Random r) {
        int i = about(r, m.people.size());
        Person p = m.person(i) ? m.people.get(i) : null;
        int want;
        switch (r.nextInt(8)) {
            case 0: {
                int pipe = about(r, m.drinks.length);
                want = p == null || !m.pipe(pipe) ? UNKNOWN : p.pipe;
                due("seat(" + i + ", " + pipe + ")", x.seat(i, pipe), want, m);
                if (want >= 0) {
                    p.pipe = pipe;
                }
                break;
            }
            case 1: {
                int s = about(r, p == null ? 3 : p.lungs + 1);
                want = p == null ? UNKNOWN : s < 0 || s > p.lungs ? OUTSIDE : p.phase;
                due("phase(" + i + ", " + s + ")", x.phase(i, s), want, m);
                if (want >= 0) {
                    p.phase = s;
                }
                break;
            }
            case 2: {
                boolean is = r.nextInt(4) == 0;
                want = p == null ? UNKNOWN : p.bribed == is ? 0 : 1;
                due("bribe(" + i + ", " + is + ")", x.bribe(i, is), want, m);
                if (want >= 0) {
                    p.bribed = is;
                }
                break;
            }
            case 3:
                want = p == null ? UNKNOWN : p.lungs == 9 ? STATE : ++p.lungs;
                due("grow(" + i + ")", x.grow(i), want, m);
                break;
            case 4: {
                int c = about(r, 10);
                want = c < 0 || c > 9 ? OUTSIDE : m.c;
                due("store(" + c + ")", x.store(c), want, m);
                m.c = want >= 0 ? c : m.c;
                break;
            }
            case 5: {
                int k = about(r, 100);
                want = k < 0 || k > 99 ? OUTSIDE : m.late;
                due("late(" + k + ")", x.late(k), want, m);
                m.late = want >= 0 ? k : m.late;
                break;
            }
            case 6: {
                int slot = about(r, 2);
                want = slot < 0 || slot > 1 ? UNKNOWN : m.people.size();
                due("keep(" + slot + ")", x.keep(slot), want, m);
                if (want >= 0) {
                    m.slots[slot] = new Kept(m.people, m.late, m.c);
                }
                break;
            }
            default: {
                int slot = about(r, 2);
                want = slot < 0 || slot > 1 ? UNKNOWN : m.slots[slot] == null ? STATE : m.people.size();
                due("again(" + slot + ")", x.again(slot), want, m);
                if (want >= 0) {
                    m.people = copies(m.slots[slot].people);
                    m.late = m.slots[slot].late;
                    m.c = m.slots[slot].c;
                }
            }
        }
    }

    private static void askState(BlownByAll x, Model m, Random r) {
        int bribed = 0;
        for (int i = 0; i < m.people.size(); i++) {
            Person p = m.people.get(i);
            int[] all = {p.lungs, p.force, p.pipe, p.phase, p.bribed ? 1 : 0};
            int what = about(r, 5);
            due("person(" + i + ", " + what + ")", x.person(i, what), what < 0 || what > 4 ? OUTSIDE : all[what], m);
            bribed += all[4];
        }
        int[] counts = {m.text.length(), m.drinks.length, m.people.size(), m.sounds.length, bribed, m.late, m.c};
        int what = about(r, 7);
        due("count(" + what + ")", x.count(what), what < 0 || what > 6 ? OUTSIDE : counts[what], m);
        int nobody = about(r, m.people.size());
        due("person(" + nobody + ", 9)", x.person(nobody, 9), m.person(nobody) ? OUTSIDE : UNKNOWN, m);
        int pipe = about(r, m.drinks.length);
        due("drinks(" + pipe + ")", x.drinks(pipe), m.pipe(pipe) ? m.drinks[pipe] : UNKNOWN, m);
    }

    private static void askMass(BlownByAll x, Model m, Random r) {
        for (int k = 0; k < 4; k++) {
            int i = about(r, m.drinks.length);
            int j = about(r, m.sounds.length);
            int who = about(r, m.people.size());
            String both = "(" + i + ", " + j + ")";
            boolean known = m.pipe(i) && m.beat(j);
            int[][] told = known ? m.play(i, m.people, m.late) : null;
            due("sounds" + both, x.sounds(i, j), known ? m.sounds[j][i] ? 1 : 0 : UNKNOWN, m);
            due("air" + both, x.air(i, j), known ? told[0][j] : UNKNOWN, m);
            due("stored" + both, x.stored(i, j), known ? told[1][j] : UNKNOWN, m);
            due("sags" + both, x.sags(i, j), known ? told[2][j] : UNKNOWN, m);
            boolean there = m.person(who) && m.beat(j);
            due("gives(" + who + ", " + j + ")", x.gives(who, j), there ? m.people.get(who).gives(j + m.late) : UNKNOWN, m);
            due("needed(" + who + ")", x.needed(who), m.person(who) ? m.needed(who) : UNKNOWN, m);
        }
        due("total()", x.total(), m.total(m.people, m.late), m);
        due("first()", x.first(), m.first(), m);
        due("worst()", x.worst(), m.worst(), m);
        due("bestLate()", x.bestLate(), m.bestLate(), m);
        due("never()", x.never(), m.never(), m);
    }

    private static void askPlans(BlownByAll x, Model m, Random r) {
        int pipe = about(r, m.drinks.length);
        int[] phases = m.pipe(pipe) ? m.phases(pipe) : null;
        int refused = m.pipe(pipe) ? STATE : UNKNOWN;
        due("phases(" + pipe + ")", x.phases(pipe), phases == null ? refused : phases[0], m);
        for (int i = -1; i <= 4; i++) {
            int want = phases == null ? refused : i < 0 || i + 1 >= phases.length ? NONE : phases[i + 1];
            due("phaseAt(" + pipe + ", " + i + ")", x.phaseAt(pipe, i), want, m);
        }
        due("bribes()", x.bribes(), m.bribes(), m);
    }

    private static void askSeats(BlownByAll x, Model m) {
        int[] seats = m.seats();
        due("seats()", x.seats(), seats == null ? STATE : seats[0], m);
        for (int i = -1; i <= m.people.size(); i++) {
            int want = !m.person(i) ? UNKNOWN : seats == null ? STATE : seats[i + 1];
            due("seatAt(" + i + ")", x.seatAt(i), want, m);
        }
    }

    private static void askChances(BlownByAll x, Model m, Random r) {
        for (int k = 0; k < 3; k++) {
            int i = about(r, m.drinks.length);
            int who = about(r, m.people.size());
            int j = about(r, m.sounds.length);
            int tenths = about(r, 11);
            for (int u = 0; u < 2; u++) {
                String rest = ", " + j + ", " + tenths + ", " + (u == 0) + ")";
                due("steady(" + i + rest, x.steady(i, j, tenths, u == 0), m.steady(i, j, tenths, u == 0), m);
                due("blame(" + who + rest, x.blame(who, j, tenths, u == 0), m.blame(who, j, tenths, u == 0), m);
            }
        }
    }

    /** Two organs, one made anew after the other: an object is used for no more than 512 calls. */
    private static void run(Random r, int mostPeople, int mostLungs, int mostBeats) {
        BlownByAll x = new BlownByAll();
        Model m = new Model();
        long before = calls;
        for (int k = 0; k < 2; k++) {
            String text = drawn(r, mostPeople, mostLungs, mostBeats);
            for (int i = 0; i < 2; i++) {
                writeSome(x, m, r, spoilt(r, text));
                if (r.nextInt(3) == 0) {
                    due("organ()", x.organ(), m.organ(), m);
                    askState(x, m, r);
                }
            }
            writeSome(x, m, r, text);
            due("organ()", x.organ(), m.organ(), m);
            tellAndAsk(x, m, r);
        }
        if (calls - before > 512) {
            due("calls of one object", calls - before, 512, m);
        }
    }

    private static void tellAndAsk(BlownByAll x, Model m, Random r) {
        for (int i = 0; i < 8; i++) {
            tell(x, m, r);
            if (i % 4 == 3) {
                askState(x, m, r);
                askMass(x, m, r);
                askChances(x, m, r);
            }
        }
        askPlans(x, m, r);
        if (m.people.size() <= 4 || m.people.size() > 6 || r.nextInt(8) == 0) {
            askSeats(x, m);
        }
    }

    public static void main(String[] args) {
        int rounds = args.length > 0 ? Integer.parseInt(args[0]) : 150;
        Random r = new Random(args.length > 1 ? Long.parseLong(args[1]) : 20261118);
        for (int i = 0; i < rounds; i++) {
            run(r, 4, 4, 24);
            run(r, 7, 9, 12);
            run(r, i % 6 == 0 ? 12 : 9, 9, 24);
        }
        System.out.println(calls + " calls, " + (wrong == 0 ? "all answers are as due" : wrong + " answers are not as due"));
        if (wrong != 0) {
            System.exit(1);
        }
    }
}
