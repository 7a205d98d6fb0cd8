import java.util.function.ToLongFunction;

/**
 * Each refusal that a promise names: the call is refused, by the first of several that it names, and what is
 * refused changes nothing, be it THE TEXT, THE ORGAN, PEOPLE, LATE, c or what was kept.
 */
public final class RefusalsTest {
    private static final int PIPES = 3, BEATS = 5, PEOPLE = 4, CROWD = 7;
    private static final String OTHER_TEXT = "O2468M123M110/7177";

    /** All has been told, both SLOTS hold something else, and THE TEXT is another one than THE ORGAN. */
    private static BlownByAll busy() {
        BlownByAll x = Edges.made("O324M210M121M932M310/1030705060");
        x.phase(0, 2);
        x.bribe(3, true);
        x.late(7);
        x.store(2);
        x.keep(0);
        x.seat(0, 1);
        x.phase(2, 9);
        x.bribe(1, true);
        x.grow(1);
        x.late(31);
        x.store(5);
        x.keep(1);
        x.seat(3, 2);
        x.phase(3, 3);
        x.bribe(1, false);
        x.grow(0);
        x.late(4);
        x.store(3);
        x.wipe();
        return Edges.add(x, OTHER_TEXT);
    }

    /** Just one SLOT holds something. */
    private static BlownByAll halfKept() {
        BlownByAll x = Edges.made("O12M210M121/1030");
        x.late(3);
        x.keep(1);
        x.late(8);
        x.bribe(0, true);
        return x;
    }

    /** Seven PEOPLE, five of whom sit at PIPE 0: too many for BEST SEATS, and there for BEST PHASES. */
    private static BlownByAll crowded() {
        BlownByAll x = Edges.made("O93M910M120M310M220M130M111M221/3010203000");
        x.keep(0);
        x.phase(1, 1);
        x.store(4);
        x.late(2);
        x.keep(1);
        return x;
    }

    private static BlownByAll faulty(String text) {
        BlownByAll x = busy();
        x.wipe();
        return Edges.add(x, text);
    }

    private static BlownByAll longText(int length) {
        return faulty(Edges.LONGEST.substring(0, length));
    }

    private static void refused(String call, ToLongFunction<BlownByAll> told, int refusal) {
        Edges.refused(call, RefusalsTest::busy, told, refusal);
    }

    private static int[] not(int end) {
        return new int[] {-1, end, Edges.LEAST, Edges.MOST};
    }

    // ---- the organ

    private static void writeOutside() {
        int[] not = {0, 9, -1, Edges.LEAST, Edges.MOST};
        for (int n : not) {
            refused("write(" + n + ")", x -> x.write(n, -1L), Edges.OUTSIDE);
            // FULL would be right as well, but OUTSIDE is named first.
            Edges.refused("write(" + n + ") of a full one", () -> longText(104), x -> x.write(n, -1L), Edges.OUTSIDE);
        }
    }

    private static void writeFull() {
        for (int n = 1; n <= 8; n++) {
            int bytes = n;
            Edges.refused("write(" + n + ")", () -> longText(104), x -> x.write(bytes, -1L), Edges.FULL);
            Edges.refused("write(" + n + ")", () -> longText(105 - bytes), x -> x.write(bytes, -1L), Edges.FULL);
        }
    }

    private static void organState() {
        String[] faults = {"", "O", "X", "O0", "O1M", "O1M11", "O1M111", "O1/", "O1/1", "O1/2", "O1/10/", "O1234567",
            "O9M110M210M310M410M510M610/77"};
        for (String text : faults) {
            Edges.refused("organ() of " + text, () -> faulty(text), BlownByAll::organ, Edges.STATE);
        }
        Edges.refused("organ() of a new object", BlownByAll::new, BlownByAll::organ, Edges.STATE);
    }

    private static void drinksUnknown() {
        for (int pipe : not(PIPES)) {
            refused("drinks(" + pipe + ")", x -> x.drinks(pipe), Edges.UNKNOWN);
        }
    }

    private static void soundsUnknown() {
        for (int pipe : not(PIPES)) {
            refused("sounds(" + pipe + ", 0)", x -> x.sounds(pipe, 0), Edges.UNKNOWN);
            refused("sounds(" + pipe + ", 5)", x -> x.sounds(pipe, BEATS), Edges.UNKNOWN);
        }
        for (int beat : not(BEATS)) {
            refused("sounds(0, " + beat + ")", x -> x.sounds(0, beat), Edges.UNKNOWN);
        }
    }

    private static void personUnknownOutside() {
        for (int person : not(PEOPLE)) {
            refused("person(" + person + ", 0)", x -> x.person(person, 0), Edges.UNKNOWN);
            refused("person(" + person + ", 5)", x -> x.person(person, 5), Edges.UNKNOWN);
        }
        for (int what : not(5)) {
            refused("person(0, " + what + ")", x -> x.person(0, what), Edges.OUTSIDE);
        }
    }

    // ---- told

    private static void seatUnknown() {
        for (int person : not(PEOPLE)) {
            refused("seat(" + person + ", 0)", x -> x.seat(person, 0), Edges.UNKNOWN);
            refused("seat(" + person + ", 3)", x -> x.seat(person, PIPES), Edges.UNKNOWN);
        }
        for (int pipe : not(PIPES)) {
            refused("seat(0, " + pipe + ")", x -> x.seat(0, pipe), Edges.UNKNOWN);
        }
    }

    private static void phaseUnknownOutside() {
        for (int person : not(PEOPLE)) {
            refused("phase(" + person + ", 0)", x -> x.phase(person, 0), Edges.UNKNOWN);
            refused("phase(" + person + ", 10)", x -> x.phase(person, 10), Edges.UNKNOWN);
        }
        int[] lungs = {3, 2, 9, 3};
        for (int k = 0; k < PEOPLE; k++) {
            int person = k;
            for (int s : not(lungs[k] + 1)) {
                refused("phase(" + person + ", " + s + ")", x -> x.phase(person, s), Edges.OUTSIDE);
            }
        }
    }

    private static void bribeUnknown() {
        for (int person : not(PEOPLE)) {
            refused("bribe(" + person + ", true)", x -> x.bribe(person, true), Edges.UNKNOWN);
            refused("bribe(" + person + ", false)", x -> x.bribe(person, false), Edges.UNKNOWN);
        }
    }

    private static void growUnknownState() {
        for (int person : not(PEOPLE)) {
            refused("grow(" + person + ")", x -> x.grow(person), Edges.UNKNOWN);
        }
        refused("grow(2)", x -> x.grow(2), Edges.STATE);
    }

    private static void storeOutside() {
        for (int c : not(10)) {
            refused("store(" + c + ")", x -> x.store(c), Edges.OUTSIDE);
        }
    }

    private static void lateOutside() {
        for (int k : not(100)) {
            refused("late(" + k + ")", x -> x.late(k), Edges.OUTSIDE);
        }
    }

    // ---- a mass

    private static void givesUnknown() {
        for (int person : not(PEOPLE)) {
            refused("gives(" + person + ", 0)", x -> x.gives(person, 0), Edges.UNKNOWN);
            refused("gives(" + person + ", 5)", x -> x.gives(person, BEATS), Edges.UNKNOWN);
        }
        for (int beat : not(BEATS)) {
            refused("gives(0, " + beat + ")", x -> x.gives(0, beat), Edges.UNKNOWN);
        }
    }

    private static void airUnknown() {
        for (int pipe : not(PIPES)) {
            refused("air(" + pipe + ", 0)", x -> x.air(pipe, 0), Edges.UNKNOWN);
            refused("air(" + pipe + ", 5)", x -> x.air(pipe, BEATS), Edges.UNKNOWN);
        }
        for (int beat : not(BEATS)) {
            refused("air(0, " + beat + ")", x -> x.air(0, beat), Edges.UNKNOWN);
        }
    }

    private static void storedUnknown() {
        for (int pipe : not(PIPES)) {
            refused("stored(" + pipe + ", 0)", x -> x.stored(pipe, 0), Edges.UNKNOWN);
            refused("stored(" + pipe + ", 5)", x -> x.stored(pipe, BEATS), Edges.UNKNOWN);
        }
        for (int beat : not(BEATS)) {
            refused("stored(0, " + beat + ")", x -> x.stored(0, beat), Edges.UNKNOWN);
        }
    }

    private static void sagsUnknown() {
        for (int pipe : not(PIPES)) {
            refused("sags(" + pipe + ", 0)", x -> x.sags(pipe, 0), Edges.UNKNOWN);
            refused("sags(" + pipe + ", 5)", x -> x.sags(pipe, BEATS), Edges.UNKNOWN);
        }
        for (int beat : not(BEATS)) {
            refused("sags(0, " + beat + ")", x -> x.sags(0, beat), Edges.UNKNOWN);
        }
    }

    // ---- plans

    private static void phasesUnknownState() {
        for (int pipe : not(PIPES)) {
            refused("phases(" + pipe + ")", x -> x.phases(pipe), Edges.UNKNOWN);
        }
        Edges.refused("phases(0) of five", RefusalsTest::crowded, x -> x.phases(0), Edges.STATE);
        for (int pipe : not(2)) {
            Edges.refused("phases(" + pipe + ")", RefusalsTest::crowded, x -> x.phases(pipe), Edges.UNKNOWN);
        }
    }

    private static void phaseAtUnknownState() {
        int[] which = {0, 4, 5, -1, Edges.LEAST, Edges.MOST};
        for (int i : which) {
            for (int pipe : not(PIPES)) {
                refused("phaseAt(" + pipe + ", " + i + ")", x -> x.phaseAt(pipe, i), Edges.UNKNOWN);
            }
            Edges.refused("phaseAt(0, " + i + ") of five", RefusalsTest::crowded, x -> x.phaseAt(0, i), Edges.STATE);
        }
    }

    private static void seatsState() {
        Edges.refused("seats() of seven", RefusalsTest::crowded, BlownByAll::seats, Edges.STATE);
    }

    private static void seatAtUnknownState() {
        for (int person : not(PEOPLE)) {
            refused("seatAt(" + person + ")", x -> x.seatAt(person), Edges.UNKNOWN);
        }
        for (int person : not(CROWD)) {
            Edges.refused("seatAt(" + person + ")", RefusalsTest::crowded, x -> x.seatAt(person), Edges.UNKNOWN);
        }
        for (int k = 0; k < CROWD; k++) {
            int person = k;
            Edges.refused("seatAt(" + k + ")", RefusalsTest::crowded, x -> x.seatAt(person), Edges.STATE);
        }
    }

    private static void neededUnknown() {
        for (int person : not(PEOPLE)) {
            refused("needed(" + person + ")", x -> x.needed(person), Edges.UNKNOWN);
        }
    }

    // ---- sneezes

    private static void steadyUnknownOutside(boolean upper) {
        for (int pipe : not(PIPES)) {
            refused("steady(" + pipe + ", 0, 3)", x -> x.steady(pipe, 0, 3, upper), Edges.UNKNOWN);
            refused("steady(" + pipe + ", 0, 11)", x -> x.steady(pipe, 0, 11, upper), Edges.UNKNOWN);
            refused("steady(" + pipe + ", 5, 11)", x -> x.steady(pipe, BEATS, 11, upper), Edges.UNKNOWN);
        }
        for (int beat : not(BEATS)) {
            refused("steady(0, " + beat + ", 3)", x -> x.steady(0, beat, 3, upper), Edges.UNKNOWN);
            refused("steady(0, " + beat + ", -1)", x -> x.steady(0, beat, -1, upper), Edges.UNKNOWN);
        }
        for (int tenths : not(11)) {
            refused("steady(0, 0, " + tenths + ")", x -> x.steady(0, 0, tenths, upper), Edges.OUTSIDE);
        }
    }

    private static void blameUnknownOutsideState(boolean upper) {
        for (int person : not(PEOPLE)) {
            refused("blame(" + person + ", 0, 3)", x -> x.blame(person, 0, 3, upper), Edges.UNKNOWN);
            refused("blame(" + person + ", 0, 11)", x -> x.blame(person, 0, 11, upper), Edges.UNKNOWN);
            refused("blame(" + person + ", 5, 0)", x -> x.blame(person, BEATS, 0, upper), Edges.UNKNOWN);
        }
        for (int beat : not(BEATS)) {
            refused("blame(2, " + beat + ", 3)", x -> x.blame(2, beat, 3, upper), Edges.UNKNOWN);
            refused("blame(2, " + beat + ", 11)", x -> x.blame(2, beat, 11, upper), Edges.UNKNOWN);
        }
        for (int tenths : not(11)) {
            refused("blame(2, 0, " + tenths + ")", x -> x.blame(2, 0, tenths, upper), Edges.OUTSIDE);
        }
        // PEOPLE 0 and 1 GIVE 3 at BEAT 0, of which PIPE 1 DRINKS 2: it gets less by sneezes alone.
        refused("blame(0, 0, 0)", x -> x.blame(0, 0, 0, upper), Edges.STATE);
        refused("blame(1, 0, 0)", x -> x.blame(1, 0, 0, upper), Edges.STATE);
    }

    // ---- slots

    private static void keepUnknown() {
        for (int slot : not(2)) {
            refused("keep(" + slot + ")", x -> x.keep(slot), Edges.UNKNOWN);
            Edges.refused("keep(" + slot + ")", RefusalsTest::halfKept, x -> x.keep(slot), Edges.UNKNOWN);
        }
    }

    private static void againUnknownState() {
        for (int slot : not(2)) {
            refused("again(" + slot + ")", x -> x.again(slot), Edges.UNKNOWN);
            Edges.refused("again(" + slot + ")", RefusalsTest::halfKept, x -> x.again(slot), Edges.UNKNOWN);
        }
        Edges.refused("again(0)", RefusalsTest::halfKept, x -> x.again(0), Edges.STATE);
        Edges.refused("again(0)", BlownByAll::new, x -> x.again(0), Edges.STATE);
        Edges.refused("again(1)", BlownByAll::new, x -> x.again(1), Edges.STATE);
    }

    private static void countOutside() {
        for (int what : not(7)) {
            refused("count(" + what + ")", x -> x.count(what), Edges.OUTSIDE);
        }
    }

    private static void organAndTold() {
        Edges.edge("2 write", "OUTSIDE;", RefusalsTest::writeOutside);
        Edges.edge("2 write", "FULL: it would be longer than 104", RefusalsTest::writeFull);
        Edges.edge("5 organ", "STATE: a FAULT.", RefusalsTest::organState);
        Edges.edge("6 drinks", "UNKNOWN.", RefusalsTest::drinksUnknown);
        Edges.edge("7 sounds", "UNKNOWN: pipe, beat.", RefusalsTest::soundsUnknown);
        Edges.edge("8 person", "UNKNOWN; OUTSIDE.", RefusalsTest::personUnknownOutside);
        Edges.edge("9 seat", "UNKNOWN: person, pipe.", RefusalsTest::seatUnknown);
        Edges.edge("10 phase", "UNKNOWN; OUTSIDE: s (0 to its lungs).", RefusalsTest::phaseUnknownOutside);
        Edges.edge("11 bribe", "UNKNOWN.", RefusalsTest::bribeUnknown);
        Edges.edge("12 grow", "UNKNOWN; STATE: 9.", RefusalsTest::growUnknownState);
        Edges.edge("13 store", "OUTSIDE.", RefusalsTest::storeOutside);
        Edges.edge("14 late", "OUTSIDE.", RefusalsTest::lateOutside);
    }

    private static void massAndPlans() {
        Edges.edge("15 gives", "UNKNOWN: person, beat.", RefusalsTest::givesUnknown);
        Edges.edge("16 air", "UNKNOWN: pipe, beat.", RefusalsTest::airUnknown);
        Edges.edge("17 stored", "UNKNOWN.", RefusalsTest::storedUnknown);
        Edges.edge("18 sags", "UNKNOWN.", RefusalsTest::sagsUnknown);
        Edges.edge("23 phases", "UNKNOWN; STATE: more than 4 sit at it.", RefusalsTest::phasesUnknownState);
        Edges.edge("24 phaseAt", "UNKNOWN; STATE.", RefusalsTest::phaseAtUnknownState);
        Edges.edge("25 seats", "STATE: more than 6 PEOPLE.", RefusalsTest::seatsState);
        Edges.edge("26 seatAt", "UNKNOWN; STATE.", RefusalsTest::seatAtUnknownState);
        Edges.edge("28 needed", "UNKNOWN.", RefusalsTest::neededUnknown);
    }

    private static void sneezesAndSlots() {
        Edges.edge("30 steady", "UNKNOWN: pipe, beat; OUTSIDE: x.", () -> steadyUnknownOutside(true));
        Edges.edge("30 steady", "refusals of them are told likewise", () -> steadyUnknownOutside(false));
        Edges.edge("31 blame", "UNKNOWN: person, beat; OUTSIDE: x; STATE", () -> blameUnknownOutsideState(true));
        Edges.edge("31 blame", "refusals of them are told likewise", () -> blameUnknownOutsideState(false));
        Edges.edge("32 keep", "UNKNOWN.", RefusalsTest::keepUnknown);
        Edges.edge("33 again", "UNKNOWN; STATE: none were kept.", RefusalsTest::againUnknownState);
        Edges.edge("34 count", "OUTSIDE.", RefusalsTest::countOutside);
    }

    public static void main(String[] args) {
        organAndTold();
        massAndPlans();
        sneezesAndSlots();
        Edges.finish();
    }
}
