/**
 * An organ without bellows, blown by people who breathe in by turns.
 *
 * <p>What each method answers is told by the numbered promises of the document. Every row is made once,
 * with the object, and used again: no call makes an object.
 */
public final class BlownByAll {
    public static final int UNKNOWN = -1, OUTSIDE = -2, STATE = -3, FULL = -4, NONE = -9;

    private static final int MOST_BYTES = 104, MOST_PIPES = 6, MOST_PEOPLE = 12, MOST_BEATS = 24;
    private static final int MOST_LUNGS = 9, MOST_FORCE = 3, MOST_STORED = 9, MOST_LATE = 99;
    private static final int BYTES_AT_ONCE = 8, TENTHS = 10, LAST_LATE_TRIED = 11;
    private static final int MOST_PHASED = 4, MOST_SEATED = 6, SLOTS = 2;
    private static final int NOBODY = -1;
    /** Above every number that a plan can have. */
    private static final int NO_PLAN_YET = 2147483647;

    private final Script script;
    private final Pipes pipes;
    private final People people;
    private final Mass mass;
    private final PhasePlan phasePlan;
    private final SeatPlan seatPlan;
    private final BribePlan bribePlan;
    private final Sneezes sneezes;
    private final People[] slots;
    private final boolean[] kept;

    public BlownByAll() {
        script = new Script();
        pipes = new Pipes();
        people = new People();
        mass = new Mass(pipes, people);
        phasePlan = new PhasePlan(people, mass);
        seatPlan = new SeatPlan(pipes, people, mass);
        bribePlan = new BribePlan(pipes, people, mass);
        sneezes = new Sneezes(pipes, people);
        slots = new People[SLOTS];
        kept = new boolean[SLOTS];
        for (int i = 0; i < SLOTS; i++) {
            slots[i] = new People();
        }
    }

    // ---- the organ

    public int write(int n, long v) {
        if (n < 1 || n > BYTES_AT_ONCE) {
            return OUTSIDE;
        }
        return script.hasRoom(n) ? script.append(n, v) : FULL;
    }

    public int wipe() {
        return script.clear();
    }

    public int fault() {
        return script.read();
    }

    public int organ() {
        if (script.read() != NONE) {
            return STATE;
        }
        pipes.takeFrom(script);
        people.takeFrom(script);
        for (int i = 0; i < SLOTS; i++) {
            kept[i] = false;
        }
        return 100 * pipes.count + people.count;
    }

    public int drinks(int pipe) {
        return pipes.has(pipe) ? pipes.thirst[pipe] : UNKNOWN;
    }

    public int sounds(int pipe, int beat) {
        if (!pipes.hasBoth(pipe, beat)) {
            return UNKNOWN;
        }
        return pipes.isSounding(pipe, beat) ? 1 : 0;
    }

    public int person(int person, int what) {
        if (!people.has(person)) {
            return UNKNOWN;
        }
        switch (what) {
            case 0:
                return people.lungs[person];
            case 1:
                return people.force[person];
            case 2:
                return people.place[person];
            case 3:
                return people.phase[person];
            case 4:
                return people.bribed[person] ? 1 : 0;
            default:
                return OUTSIDE;
        }
    }

    // ---- told

    public int seat(int person, int pipe) {
        if (!people.has(person) || !pipes.has(pipe)) {
            return UNKNOWN;
        }
        int was = people.place[person];
        people.place[person] = pipe;
        return was;
    }

    public int phase(int person, int s) {
        if (!people.has(person)) {
            return UNKNOWN;
        }
        if (s < 0 || s > people.lungs[person]) {
            return OUTSIDE;
        }
        int was = people.phase[person];
        people.phase[person] = s;
        return was;
    }

    public int bribe(int person, boolean is) {
        if (!people.has(person)) {
            return UNKNOWN;
        }
        boolean was = people.bribed[person];
        people.bribed[person] = is;
        return was == is ? 0 : 1;
    }

    public int grow(int person) {
        if (!people.has(person)) {
            return UNKNOWN;
        }
        if (people.lungs[person] >= MOST_LUNGS) {
            return STATE;
        }
        people.lungs[person]++;
        return people.lungs[person];
    }

    public int store(int c) {
        if (c < 0 || c > MOST_STORED) {
            return OUTSIDE;
        }
        int was = people.room;
        people.room = c;
        return was;
    }

    public int late(int k) {
        if (k < 0 || k > MOST_LATE) {
            return OUTSIDE;
        }
        int was = people.late;
        people.late = k;
        return was;
    }

    // ---- a mass

    public int gives(int person, int beat) {
        if (!people.has(person) || !pipes.hasBeat(beat)) {
            return UNKNOWN;
        }
        return people.givenAt(person, beat + people.late);
    }

    public int air(int pipe, int beat) {
        if (!pipes.hasBoth(pipe, beat)) {
            return UNKNOWN;
        }
        mass.gather(people.sittingAt(pipe), people.late);
        return mass.wind[beat];
    }

    public int stored(int pipe, int beat) {
        if (!pipes.hasBoth(pipe, beat)) {
            return UNKNOWN;
        }
        mass.play(pipe, people.late);
        return mass.held[beat];
    }

    public int sags(int pipe, int beat) {
        if (!pipes.hasBoth(pipe, beat)) {
            return UNKNOWN;
        }
        mass.play(pipe, people.late);
        return mass.missing[beat];
    }

    public int total() {
        return mass.playAll(people.late);
    }

    public int first() {
        int found = NONE;
        for (int pipe = 0; pipe < pipes.count; pipe++) {
            mass.play(pipe, people.late);
            int beat = mass.firstMissing();
            if (beat != NONE && (found == NONE || 10 * beat + pipe < found)) {
                found = 10 * beat + pipe;
            }
        }
        return found;
    }

    public int worst() {
        int found = NONE;
        int most = 0;
        for (int pipe = 0; pipe < pipes.count; pipe++) {
            int together = mass.play(pipe, people.late);
            if (together > most) {
                most = together;
                found = pipe;
            }
        }
        return found;
    }

    // ---- plans

    public int bestLate() {
        int found = 0;
        int least = mass.playAll(0);
        for (int k = 1; k <= LAST_LATE_TRIED; k++) {
            int together = mass.playAll(k);
            if (together < least) {
                least = together;
                found = k;
            }
        }
        return found;
    }

    public int phases(int pipe) {
        if (!pipes.has(pipe)) {
            return UNKNOWN;
        }
        return phasePlan.find(pipe) ? phasePlan.least : STATE;
    }

    public int phaseAt(int pipe, int i) {
        if (!pipes.has(pipe)) {
            return UNKNOWN;
        }
        if (!phasePlan.find(pipe)) {
            return STATE;
        }
        return phasePlan.phaseOf(i);
    }

    public int seats() {
        return seatPlan.find() ? seatPlan.least() : STATE;
    }

    public int seatAt(int person) {
        if (!people.has(person)) {
            return UNKNOWN;
        }
        return seatPlan.find() ? seatPlan.placeOf(person) : STATE;
    }

    public int bribes() {
        int all = 0;
        for (int pipe = 0; pipe < pipes.count; pipe++) {
            // Nobody sits at two PIPES, so what is best for each of them is best for all.
            int bits = bribePlan.find(pipe);
            if (bits == NONE) {
                return NONE;
            }
            all |= bits;
        }
        return all;
    }

    public int needed(int person) {
        if (!people.has(person)) {
            return UNKNOWN;
        }
        int pipe = people.place[person];
        int with = mass.play(pipe, people.late);
        mass.gather(people.sittingAt(pipe) & ~(1 << person), people.late);
        return mass.blow(pipe) - with;
    }

    public int never() {
        for (int beat = 0; beat < pipes.beats; beat++) {
            for (int pipe = 0; pipe < pipes.count; pipe++) {
                int most = people.forceOf(people.sittingAt(pipe)) + people.room;
                if (pipes.isSounding(pipe, beat) && pipes.thirst[pipe] > most) {
                    return 10 * beat + pipe;
                }
            }
        }
        return NONE;
    }

    // ---- sneezes

    public long steady(int pipe, int beat, int x, boolean upper) {
        if (!pipes.hasBoth(pipe, beat)) {
            return UNKNOWN;
        }
        if (x < 0 || x > TENTHS) {
            return OUTSIDE;
        }
        sneezes.weighEnough(pipe, beat, x);
        return upper ? sneezes.above : sneezes.below;
    }

    public long blame(int person, int beat, int x, boolean upper) {
        if (!people.has(person) || !pipes.hasBeat(beat)) {
            return UNKNOWN;
        }
        if (x < 0 || x > TENTHS) {
            return OUTSIDE;
        }
        if (!sneezes.weighGuilt(person, beat, x)) {
            return STATE;
        }
        return upper ? sneezes.above : sneezes.below;
    }

    // ---- slots

    public int keep(int slot) {
        if (slot < 0 || slot >= SLOTS) {
            return UNKNOWN;
        }
        slots[slot].copyFrom(people);
        kept[slot] = true;
        return people.count;
    }

    public int again(int slot) {
        if (slot < 0 || slot >= SLOTS) {
            return UNKNOWN;
        }
        if (!kept[slot]) {
            return STATE;
        }
        people.copyFrom(slots[slot]);
        return people.count;
    }

    public int count(int what) {
        switch (what) {
            case 0:
                return script.length;
            case 1:
                return pipes.count;
            case 2:
                return people.count;
            case 3:
                return pipes.beats;
            case 4:
                return people.bribedOnes();
            case 5:
                return people.late;
            case 6:
                return people.room;
            default:
                return OUTSIDE;
        }
    }

    /** THE TEXT, and how far it can be read as an ORGAN. */
    private static final class Script {
        private final byte[] signs;
        private int length;
        /** Where the reading stands; where it ended is the FAULT, be it by a wrong byte or by the end. */
        private int at;
        private int pipesRead, peopleRead, beatsRead;

        Script() {
            signs = new byte[MOST_BYTES];
        }

        boolean hasRoom(int n) {
            return n <= MOST_BYTES - length;
        }

        int append(int n, long v) {
            for (int i = n - 1; i >= 0 && length < MOST_BYTES; i--) {
                signs[length] = (byte) (v >> (8 * i));
                length++;
            }
            return length;
        }

        int clear() {
            int was = length;
            length = 0;
            return was;
        }

        /** The FAULT; NONE: none. */
        int read() {
            at = 0;
            pipesRead = 0;
            peopleRead = 0;
            beatsRead = 0;
            boolean whole = takeSign('O') && takePipes() && takePeople() && takeHymn() && at == length;
            return whole ? NONE : at;
        }

        /** The byte at a place, 0 to 255; -1: there is none. */
        private int signAt(int place) {
            return place >= 0 && place < length && place < MOST_BYTES ? signs[place] & 255 : -1;
        }

        /** Only for places that have been read as figures. */
        private int figureAt(int place) {
            return signAt(place) - '0';
        }

        private boolean takeSign(char sign) {
            if (signAt(at) != sign) {
                return false;
            }
            at++;
            return true;
        }

        private boolean takeFigure(int least, int most) {
            int figure = figureAt(at);
            if (figure < least || figure > most) {
                return false;
            }
            at++;
            return true;
        }

        private boolean takePipes() {
            for (int i = 0; i < MOST_PIPES && takeFigure(1, 9); i++) {
                pipesRead++;
            }
            return pipesRead > 0;
        }

        private boolean takePeople() {
            for (int i = 0; i < MOST_PEOPLE && takeSign('M'); i++) {
                if (!takeFigure(1, MOST_LUNGS) || !takeFigure(1, MOST_FORCE) || !takeFigure(0, pipesRead - 1)) {
                    return false;
                }
                peopleRead++;
            }
            return true;
        }

        private boolean takeHymn() {
            if (at == length) {
                return true;
            }
            if (!takeSign('/')) {
                return false;
            }
            int lowBits = (1 << Math.min(pipesRead, 3)) - 1;
            int highBits = (1 << Math.max(pipesRead - 3, 0)) - 1;
            for (int i = 0; i < MOST_BEATS && (i == 0 || at < length); i++) {
                if (!takeFigure(0, lowBits) || !takeFigure(0, highBits)) {
                    return false;
                }
                beatsRead++;
            }
            return true;
        }

        int thirstRead(int pipe) {
            return figureAt(1 + pipe);
        }

        /** Of a PERSON lungs (0), force (1), PIPE (2). */
        int personRead(int person, int what) {
            return figureAt(2 + pipesRead + 4 * person + what);
        }

        /** PIPES that sound, as bits. */
        int beatRead(int beat) {
            int place = 2 + pipesRead + 4 * peopleRead + 2 * beat;
            return figureAt(place) | figureAt(place + 1) << 3;
        }
    }

    /** PIPES of THE ORGAN, and its HYMN. */
    private static final class Pipes {
        private int count, beats;
        private final int[] thirst;
        /** At each BEAT, which PIPES sound, as bits. */
        private final int[] sounding;

        Pipes() {
            thirst = new int[MOST_PIPES];
            sounding = new int[MOST_BEATS];
            count = 1;
            thirst[0] = 1;
        }

        void takeFrom(Script script) {
            count = script.pipesRead;
            beats = script.beatsRead;
            for (int i = 0; i < count; i++) {
                thirst[i] = script.thirstRead(i);
            }
            for (int j = 0; j < beats; j++) {
                sounding[j] = script.beatRead(j);
            }
        }

        boolean has(int pipe) {
            return pipe >= 0 && pipe < count;
        }

        boolean hasBeat(int beat) {
            return beat >= 0 && beat < beats;
        }

        boolean hasBoth(int pipe, int beat) {
            return has(pipe) && hasBeat(beat);
        }

        boolean isSounding(int pipe, int beat) {
            return (sounding[beat] >> pipe & 1) == 1;
        }
    }

    /** What a SLOT can keep: PEOPLE, LATE, and what a STORE has room for (c). */
    private static final class People {
        private int count, late, room;
        private final int[] lungs, force, place, phase;
        private final boolean[] bribed;

        People() {
            lungs = new int[MOST_PEOPLE];
            force = new int[MOST_PEOPLE];
            place = new int[MOST_PEOPLE];
            phase = new int[MOST_PEOPLE];
            bribed = new boolean[MOST_PEOPLE];
        }

        void takeFrom(Script script) {
            count = script.peopleRead;
            late = 0;
            room = 0;
            for (int i = 0; i < count; i++) {
                lungs[i] = script.personRead(i, 0);
                force[i] = script.personRead(i, 1);
                place[i] = script.personRead(i, 2);
                phase[i] = 0;
                bribed[i] = false;
            }
        }

        void copyFrom(People other) {
            count = other.count;
            late = other.late;
            room = other.room;
            for (int i = 0; i < count; i++) {
                lungs[i] = other.lungs[i];
                force[i] = other.force[i];
                place[i] = other.place[i];
                phase[i] = other.phase[i];
                bribed[i] = other.bribed[i];
            }
        }

        boolean has(int person) {
            return person >= 0 && person < count;
        }

        /** From one breath to the next; 1 at least, whatever the lungs, for it divides and steps. */
        int turnOf(int person) {
            return Math.max(lungs[person], 0) + 1;
        }

        int givenAt(int person, int time) {
            boolean breathesIn = (time + phase[person]) % turnOf(person) == lungs[person];
            return breathesIn && !bribed[person] ? 0 : force[person];
        }

        /** Who sits at a PIPE, as bits. */
        int sittingAt(int pipe) {
            int bits = 0;
            for (int i = 0; i < count; i++) {
                if (place[i] == pipe) {
                    bits |= 1 << i;
                }
            }
            return bits;
        }

        int forceOf(int who) {
            int sum = 0;
            for (int i = 0; i < count; i++) {
                if ((who >> i & 1) == 1) {
                    sum += force[i];
                }
            }
            return sum;
        }

        int bribedOnes() {
            int sum = 0;
            for (int i = 0; i < count; i++) {
                if (bribed[i]) {
                    sum++;
                }
            }
            return sum;
        }
    }

    /** The HYMN played by one PIPE: its AIR BEAT by BEAT, and what comes of it. */
    private static final class Mass {
        private final Pipes pipes;
        private final People people;
        private final int[] wind, held, missing;

        Mass(Pipes pipes, People people) {
            this.pipes = pipes;
            this.people = people;
            wind = new int[MOST_BEATS];
            held = new int[MOST_BEATS];
            missing = new int[MOST_BEATS];
        }

        /** The wind is what some PEOPLE (bits) GIVE. */
        void gather(int who, int late) {
            fill(0);
            for (int i = 0; i < people.count; i++) {
                if ((who >> i & 1) == 0) {
                    continue;
                }
                for (int j = 0; j < pipes.beats; j++) {
                    wind[j] += people.givenAt(i, j + late);
                }
            }
        }

        /** The wind is the same at all BEATS. */
        void fill(int amount) {
            for (int j = 0; j < pipes.beats; j++) {
                wind[j] = amount;
            }
        }

        /** Adds to the wind at those BEATS at which a PERSON would breathe in by a PHASE s. */
        void addAtBreaths(int person, int s, int amount) {
            int turn = people.turnOf(person);
            int start = Math.floorMod(people.lungs[person] - s - people.late, turn);
            for (int j = start; j < pipes.beats; j += turn) {
                wind[j] += amount;
            }
        }

        /** A PIPE plays by the wind: its SAGS together. */
        int blow(int pipe) {
            int inStore = 0;
            int together = 0;
            for (int j = 0; j < pipes.beats; j++) {
                int left = inStore + wind[j];
                if (pipes.isSounding(pipe, j)) {
                    left -= pipes.thirst[pipe];
                }
                inStore = Math.max(0, Math.min(left, people.room));
                held[j] = inStore;
                missing[j] = Math.max(0, -left);
                together += missing[j];
            }
            return together;
        }

        /** A PIPE plays with those who sit at it: its SAGS together. */
        int play(int pipe, int late) {
            gather(people.sittingAt(pipe), late);
            return blow(pipe);
        }

        int playAll(int late) {
            int together = 0;
            for (int pipe = 0; pipe < pipes.count; pipe++) {
                together += play(pipe, late);
            }
            return together;
        }

        /** The first BEAT of what was played last at which it SAGS; NONE. */
        int firstMissing() {
            for (int j = 0; j < pipes.beats; j++) {
                if (missing[j] > 0) {
                    return j;
                }
            }
            return NONE;
        }
    }

    /**
     * BEST PHASES of a PIPE. All are tried in order, but for those that can be no better than what was
     * found. Less AIR never SAGS less, and what one's breaths add to SAGS is never less for the breaths of
     * others (AIR and STORES only add up): so each that is not settled adds what it would add alone, or more.
     */
    private static final class PhasePlan {
        private final People people;
        private final Mass mass;
        private final int[] sitters, tried, best;
        /** What all from one on add at least. */
        private final int[] toCome;
        private int pipe, sitting, least;

        PhasePlan(People people, Mass mass) {
            this.people = people;
            this.mass = mass;
            sitters = new int[MOST_PHASED];
            tried = new int[MOST_PHASED];
            best = new int[MOST_PHASED];
            toCome = new int[MOST_PHASED + 1];
        }

        /** Whether there are BEST PHASES (not if too many sit at the PIPE). */
        boolean find(int atPipe) {
            int who = people.sittingAt(atPipe);
            if (Integer.bitCount(who) > MOST_PHASED) {
                return false;
            }
            pipe = atPipe;
            list(who);
            mass.fill(people.forceOf(who));
            foresee();
            least = NO_PLAN_YET;
            tryFrom(this, 0);
            return true;
        }

        private void list(int who) {
            sitting = 0;
            for (int i = 0; i < people.count && sitting < MOST_PHASED; i++) {
                if ((who >> i & 1) == 1) {
                    sitters[sitting] = i;
                    sitting++;
                }
            }
        }

        private void foresee() {
            int unbreathed = mass.blow(pipe);
            toCome[sitting] = 0;
            for (int one = sitting - 1; one >= 0; one--) {
                toCome[one] = toCome[one + 1] + leastAlone(sitters[one]) - unbreathed;
            }
        }

        /** SAGS together if just this PERSON breathes in, by the best PHASE. */
        private int leastAlone(int person) {
            int found = NO_PLAN_YET;
            for (int s = 0; s <= lastPhase(person); s++) {
                mass.addAtBreaths(person, s, -breath(person));
                found = Math.min(found, mass.blow(pipe));
                mass.addAtBreaths(person, s, breath(person));
            }
            return found;
        }

        /** To one that is BRIBED all PHASES are alike, and 0 is the first. */
        private int lastPhase(int person) {
            return people.bribed[person] ? 0 : people.lungs[person];
        }

        /** The AIR that is missing when it breathes in. */
        private int breath(int person) {
            return people.bribed[person] ? 0 : people.force[person];
        }

        /** The PHASES of those ahead of one are settled, in the wind too; those behind it GIVE at all TIMES. */
        private static void tryFrom(PhasePlan plan, int one) {
            if (one > plan.sitting || one > MOST_PHASED) {
                return;
            }
            int together = plan.mass.blow(plan.pipe);
            if (together + plan.toCome[one] >= plan.least) {
                return;
            }
            if (one == plan.sitting) {
                plan.settle(together);
                return;
            }
            int person = plan.sitters[one];
            for (int s = 0; s <= plan.lastPhase(person); s++) {
                plan.tried[one] = s;
                plan.mass.addAtBreaths(person, s, -plan.breath(person));
                tryFrom(plan, one + 1);
                plan.mass.addAtBreaths(person, s, plan.breath(person));
            }
        }

        private void settle(int together) {
            least = together;
            for (int i = 0; i < sitting; i++) {
                best[i] = tried[i];
            }
        }

        int phaseOf(int i) {
            return i >= 0 && i < sitting ? best[i] : NONE;
        }
    }

    /**
     * BEST SEATS. A plan is one number: TOTAL, and below it the seats as figures by six, PERSON 0 first; so
     * the least number is the best plan, of like ones the first, and numbers of PIPES can be added.
     */
    private static final class SeatPlan {
        private static final int SETS = 64, ALL_SEATS = 46656;
        private static final int[] FIGURE_OF = {7776, 1296, 216, 36, 6, 1};
        private final Pipes pipes;
        private final People people;
        private final Mass mass;
        /** What it makes if a set of PEOPLE (bits), and nobody else, sits at a PIPE, PIPE by PIPE. */
        private final int[] price;
        /** The best for each set of PEOPLE, at those PIPES that have been looked at. */
        private final int[] best;

        SeatPlan(Pipes pipes, People people, Mass mass) {
            this.pipes = pipes;
            this.people = people;
            this.mass = mass;
            price = new int[MOST_PIPES * SETS];
            best = new int[SETS];
        }

        /** Whether there are BEST SEATS (not if there are too many PEOPLE). */
        boolean find() {
            if (people.count > MOST_SEATED) {
                return false;
            }
            int sets = 1 << people.count;
            for (int who = 0; who < sets; who++) {
                setPrices(who);
                best[who] = price[who];
            }
            for (int pipe = 1; pipe < pipes.count; pipe++) {
                // Downward, for a set asks for smaller ones as they were ahead of this PIPE.
                for (int who = sets - 1; who >= 0; who--) {
                    best[who] = bestWith(pipe, who);
                }
            }
            return true;
        }

        private void setPrices(int who) {
            mass.gather(who, people.late);
            int seats = seatsOf(who);
            for (int pipe = 0; pipe < pipes.count; pipe++) {
                price[pipe * SETS + who] = mass.blow(pipe) * ALL_SEATS + pipe * seats;
            }
        }

        private static int seatsOf(int who) {
            int sum = 0;
            for (int i = 0; i < MOST_SEATED; i++) {
                if ((who >> i & 1) == 1) {
                    sum += FIGURE_OF[i];
                }
            }
            return sum;
        }

        private int bestWith(int pipe, int who) {
            int least = NO_PLAN_YET;
            for (int here = 0; here <= who; here++) {
                if ((here & ~who) == 0) {
                    least = Math.min(least, price[pipe * SETS + here] + best[who & ~here]);
                }
            }
            return least;
        }

        private int plan() {
            return best[(1 << Math.min(people.count, MOST_SEATED)) - 1];
        }

        int least() {
            return plan() / ALL_SEATS;
        }

        int placeOf(int person) {
            return person >= 0 && person < MOST_SEATED ? plan() / FIGURE_OF[person] % MOST_PIPES : NONE;
        }
    }

    /**
     * BRIBES at one PIPE. It goes from the last PERSON to the first, each first as not to be BRIBED, so
     * that numbers come upward; what SAGS though all others be BRIBED is not followed.
     */
    private static final class BribePlan {
        private final Pipes pipes;
        private final People people;
        private final Mass mass;
        private int pipe, fewest, bits;

        BribePlan(Pipes pipes, People people, Mass mass) {
            this.pipes = pipes;
            this.people = people;
            this.mass = mass;
        }

        /** Whom to BRIBE of those who sit at a PIPE, as bits; NONE: it can not be so. */
        int find(int atPipe) {
            if (!pipes.has(atPipe)) {
                return NONE;
            }
            pipe = atPipe;
            fewest = MOST_PEOPLE + 1;
            bits = NONE;
            mass.fill(people.forceOf(people.sittingAt(pipe)));
            decideFrom(this, people.count - 1, 0);
            return bits;
        }

        /** Those behind one are settled, in the wind too; the set are the BRIBED ones of them. */
        private static void decideFrom(BribePlan plan, int one, int set) {
            int many = Integer.bitCount(set);
            if (many >= plan.fewest || plan.mass.blow(plan.pipe) > 0) {
                return;
            }
            int person = plan.nextToDecide(one);
            if (person == NOBODY) {
                plan.fewest = many;
                plan.bits = set;
                return;
            }
            int breath = plan.people.force[person];
            int s = plan.people.phase[person];
            plan.mass.addAtBreaths(person, s, -breath);
            decideFrom(plan, person - 1, set);
            plan.mass.addAtBreaths(person, s, breath);
            decideFrom(plan, person - 1, set | 1 << person);
        }

        /** The last from one downward that sits at the PIPE and isn't BRIBED. */
        private int nextToDecide(int one) {
            for (int i = Math.min(one, people.count - 1); i >= 0; i--) {
                if (people.place[i] == pipe && !people.bribed[i]) {
                    return i;
                }
            }
            return NOBODY;
        }
    }

    /** SNEEZES at one BEAT: chances as numbers of like cases, of 10 for each that would GIVE. */
    private static final class Sneezes {
        private static final int MOST_AIR = MOST_PEOPLE * MOST_FORCE, MOST_STEPS = 200;
        private final Pipes pipes;
        private final People people;
        /** In how many cases a PIPE gets so much. */
        private final long[] cases;
        private long all;
        private long above, below;

        Sneezes(Pipes pipes, People people) {
            this.pipes = pipes;
            this.people = people;
            cases = new long[MOST_AIR + 1];
        }

        /** STEADY, as a fraction above and below. */
        void weighEnough(int pipe, int beat, int x) {
            spread(people.sittingAt(pipe), beat, x);
            reduce(all - casesUnder(pipes.thirst[pipe]), all);
        }

        /** BLAME, as a fraction above and below; false: its PIPE never gets less. */
        boolean weighGuilt(int person, int beat, int x) {
            int pipe = people.place[person];
            int thirst = pipes.thirst[pipe];
            int given = people.givenAt(person, beat + people.late);
            spread(people.sittingAt(pipe) & ~(1 << person), beat, x);
            long guilty = given > 0 ? x * casesUnder(thirst) : 0;
            long innocent = given > 0 ? (TENTHS - x) * casesUnder(thirst - given) : casesUnder(thirst);
            if (guilty + innocent == 0) {
                return false;
            }
            reduce(guilty, guilty + innocent);
            return true;
        }

        private void spread(int who, int beat, int x) {
            for (int sum = 0; sum <= MOST_AIR; sum++) {
                cases[sum] = 0;
            }
            cases[0] = 1;
            all = 1;
            for (int i = 0; i < people.count; i++) {
                int given = people.givenAt(i, beat + people.late);
                if ((who >> i & 1) == 1 && given > 0) {
                    admit(given, x);
                }
            }
        }

        private void admit(int given, int x) {
            // Downward, for a sum asks for a smaller one as it was ahead of this PERSON.
            for (int sum = MOST_AIR; sum >= 0; sum--) {
                long unsneezed = sum >= given ? cases[sum - given] * (TENTHS - x) : 0;
                cases[sum] = cases[sum] * x + unsneezed;
            }
            all *= TENTHS;
        }

        private long casesUnder(int limit) {
            long sum = 0;
            for (int i = 0; i < limit && i <= MOST_AIR; i++) {
                sum += cases[i];
            }
            return sum;
        }

        /** To least terms; what stands below is 1 or more. */
        private void reduce(long upper, long lower) {
            long common = lower;
            long rest = upper;
            for (int i = 0; i < MOST_STEPS && rest != 0; i++) {
                long next = common % rest;
                common = rest;
                rest = next;
            }
            above = common == 0 ? upper : upper / common;
            below = common == 0 ? lower : lower / common;
        }
    }
}
