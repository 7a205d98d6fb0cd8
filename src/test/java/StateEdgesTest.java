/** Edges of what is held and told: promises 1, 6 to 14 and 32 to 34, and the 512 calls that an object is used for. */
public final class StateEdgesTest {
    private static final int[] FAR = {-1, Edges.LEAST, Edges.MOST};

    /** Of a row of numbers just beyond its end, and far beyond both. */
    private static int[] beyond(int end) {
        return new int[] {-1, end, end + 1, FAR[1], FAR[2]};
    }

    private static void person(BlownByAll x, int person, int... due) {
        for (int what = 0; what < due.length; what++) {
            Edges.due("person(" + person + ", " + what + ")", x.person(person, what), due[what]);
        }
    }

    private static void counts(BlownByAll x, int... due) {
        for (int what = 0; what < due.length; what++) {
            Edges.due("count(" + what + ")", x.count(what), due[what]);
        }
    }

    // ---- a new object, and how long it is used

    private static void refusalsAndNone() {
        Edges.due("UNKNOWN", BlownByAll.UNKNOWN, -1);
        Edges.due("OUTSIDE", BlownByAll.OUTSIDE, -2);
        Edges.due("STATE", BlownByAll.STATE, -3);
        Edges.due("FULL", BlownByAll.FULL, -4);
        Edges.due("NONE", BlownByAll.NONE, -9);
    }

    private static void onePipeNobody() {
        BlownByAll x = new BlownByAll();
        counts(x, 0, 1, 0, 0, 0, 0, 0);
        Edges.due("drinks(0)", x.drinks(0), 1);
        Edges.due("drinks(1)", x.drinks(1), Edges.UNKNOWN);
        Edges.due("person(0, 0)", x.person(0, 0), Edges.UNKNOWN);
        Edges.due("sounds(0, 0)", x.sounds(0, 0), Edges.UNKNOWN);
        Edges.due("fault()", x.fault(), 0);
        Edges.due("again(0)", x.again(0), Edges.STATE);
        Edges.due("again(1)", x.again(1), Edges.STATE);
    }

    private static void asIfMadeOfO1() {
        // THE TEXT is empty, though THE ORGAN is O1; it answers as one that was made of that text.
        BlownByAll x = new BlownByAll();
        BlownByAll y = Edges.made("O1");
        y.wipe();
        Edges.due("the same", x.count(0), y.count(0));
        if (!Edges.stateOf(x).equals(Edges.stateOf(y))) {
            Edges.due(Edges.stateOf(x) + " is " + Edges.stateOf(y), 0, 1);
        }
        Edges.due("store(9)", x.store(9), 0);
        Edges.due("late(99)", x.late(99), 0);
        Edges.due("total()", x.total(), 0);
        Edges.due("phases(0)", x.phases(0), 0);
        Edges.due("keep(0)", x.keep(0), 0);
    }

    private static void eachObjectByItself() {
        BlownByAll x = Edges.made("O12M110/10");
        BlownByAll y = new BlownByAll();
        x.late(4);
        x.keep(0);
        counts(y, 0, 1, 0, 0, 0, 0, 0);
        Edges.due("again(0)", y.again(0), Edges.STATE);
    }

    private static void the512thCall() {
        BlownByAll x = new BlownByAll();
        int calls = 0;
        for (int at = 0; at < 104; at += 8) {
            x.write(8, Edges.bytes(Edges.LONGEST.substring(at, at + 8)));
            calls++;
        }
        Edges.due("organ()", x.organ(), 612);
        calls++;
        for (; calls < 511; calls++) {
            Edges.due("late()", x.late((calls + 1) % 100), calls == 14 ? 0 : calls % 100);
        }
        Edges.due("the 512th call", x.count(5), 11);
    }

    // ---- the organ

    private static void drinksOfEachPipe() {
        BlownByAll x = Edges.made("O192837");
        int[] due = {1, 9, 2, 8, 3, 7};
        for (int pipe = 0; pipe < 6; pipe++) {
            Edges.due("drinks(" + pipe + ")", x.drinks(pipe), due[pipe]);
        }
        for (int pipe : beyond(6)) {
            Edges.due("drinks(" + pipe + ")", x.drinks(pipe), Edges.UNKNOWN);
        }
        for (int pipe : beyond(2)) {
            Edges.due("drinks(" + pipe + ") of two", Edges.made("O12").drinks(pipe), Edges.UNKNOWN);
        }
        for (int figure = 1; figure <= 9; figure++) {
            Edges.due("drinks(0)", Edges.made("O" + figure).drinks(0), figure);
        }
    }

    private static void soundsByBits() {
        // At BEATS 0 to 63, told in three hymns, all sets of six PIPES sound, one by one.
        for (int from = 0; from < 64; from += 22) {
            StringBuilder hymn = new StringBuilder();
            for (int set = from; set < Math.min(from + 22, 64); set++) {
                hymn.append(set & 7).append(set >> 3);
            }
            BlownByAll x = Edges.made("O111111/" + hymn);
            for (int set = from; set < Math.min(from + 22, 64); set++) {
                for (int pipe = 0; pipe < 6; pipe++) {
                    Edges.due("sounds(" + pipe + ", " + (set - from) + ")", x.sounds(pipe, set - from), set >> pipe & 1);
                }
            }
        }
    }

    private static void soundsAtTheLastBeat() {
        BlownByAll x = Edges.made("O111/" + "00".repeat(23) + "40");
        Edges.due("sounds(2, 23)", x.sounds(2, 23), 1);
        Edges.due("sounds(1, 23)", x.sounds(1, 23), 0);
        Edges.due("sounds(2, 0)", x.sounds(2, 0), 0);
        for (int beat : beyond(24)) {
            Edges.due("sounds(0, " + beat + ")", x.sounds(0, beat), Edges.UNKNOWN);
        }
        for (int pipe : beyond(3)) {
            Edges.due("sounds(" + pipe + ", 0)", x.sounds(pipe, 0), Edges.UNKNOWN);
            Edges.due("sounds(" + pipe + ", 24)", x.sounds(pipe, 24), Edges.UNKNOWN);
        }
        Edges.due("sounds(0, 0) without a hymn", Edges.made("O1").sounds(0, 0), Edges.UNKNOWN);
        Edges.due("sounds(0, 1) of one beat", Edges.made("O1/10").sounds(0, 1), Edges.UNKNOWN);
        Edges.due("sounds(0, 0) of one beat", Edges.made("O1/10").sounds(0, 0), 1);
    }

    private static void whatOfAPerson() {
        BlownByAll x = Edges.made("O123456M935M111/10");
        x.phase(0, 9);
        x.bribe(0, true);
        person(x, 0, 9, 3, 5, 9, 1);
        person(x, 1, 1, 1, 1, 0, 0);
        for (int what : beyond(5)) {
            Edges.due("person(0, " + what + ")", x.person(0, what), Edges.OUTSIDE);
        }
    }

    private static void firstAndLastPerson() {
        BlownByAll x = Edges.made("O12M211" + "M110".repeat(10) + "M831");
        person(x, 0, 2, 1, 1, 0, 0);
        person(x, 11, 8, 3, 1, 0, 0);
        for (int person : beyond(12)) {
            Edges.due("person(" + person + ", 0)", x.person(person, 0), Edges.UNKNOWN);
            Edges.due("person(" + person + ", 5)", x.person(person, 5), Edges.UNKNOWN);
        }
        Edges.due("person(1, 0) of one", Edges.made("O1M110").person(1, 0), Edges.UNKNOWN);
        Edges.due("person(0, 0) of nobody", Edges.made("O1").person(0, 0), Edges.UNKNOWN);
    }

    // ---- told

    private static void seatsFirstToLast() {
        BlownByAll x = Edges.made("O123456" + "M110".repeat(12));
        Edges.due("seat(11, 5)", x.seat(11, 5), 0);
        Edges.due("seat(11, 5)", x.seat(11, 5), 5);
        Edges.due("seat(11, 0)", x.seat(11, 0), 5);
        Edges.due("seat(0, 0)", x.seat(0, 0), 0);
        for (int pipe : beyond(6)) {
            Edges.due("seat(0, " + pipe + ")", x.seat(0, pipe), Edges.UNKNOWN);
        }
        for (int person : beyond(12)) {
            Edges.due("seat(" + person + ", 0)", x.seat(person, 0), Edges.UNKNOWN);
            Edges.due("seat(" + person + ", 6)", x.seat(person, 6), Edges.UNKNOWN);
        }
        person(x, 0, 1, 1, 0, 0, 0);
        Edges.due("seat(0, 1) of one pipe", Edges.made("O1M110").seat(0, 1), Edges.UNKNOWN);
    }

    private static void allSeatedAtOnePipe() {
        BlownByAll x = Edges.made("O12" + "M931".repeat(12) + "/30");
        for (int person = 0; person < 12; person++) {
            Edges.due("seat(" + person + ", 0)", x.seat(person, 0), 1);
        }
        Edges.due("air(0, 0)", x.air(0, 0), 36);
        Edges.due("air(1, 0)", x.air(1, 0), 0);
    }

    private static void phaseNoneToLungs() {
        for (int lungs = 1; lungs <= 9; lungs++) {
            BlownByAll x = Edges.made("O1M" + lungs + "10");
            Edges.due("person(0, 3)", x.person(0, 3), 0);
            for (int s = 0; s <= lungs; s++) {
                Edges.due("phase(0, " + s + ") of " + lungs, x.phase(0, s), Math.max(0, s - 1));
            }
            for (int s : beyond(lungs + 1)) {
                Edges.due("phase(0, " + s + ") of " + lungs, x.phase(0, s), Edges.OUTSIDE);
            }
            Edges.due("person(0, 3)", x.person(0, 3), lungs);
            Edges.due("phase(0, 0)", x.phase(0, 0), lungs);
        }
    }

    private static void phaseByItsOwnLungs() {
        BlownByAll x = Edges.made("O1M910M110");
        Edges.due("phase(0, 9)", x.phase(0, 9), 0);
        Edges.due("phase(1, 2)", x.phase(1, 2), Edges.OUTSIDE);
        Edges.due("phase(1, 1)", x.phase(1, 1), 0);
        // Lungs that have grown leave room for one more, and the PHASE stays.
        Edges.due("grow(1)", x.grow(1), 2);
        Edges.due("person(1, 3)", x.person(1, 3), 1);
        Edges.due("phase(1, 2)", x.phase(1, 2), 1);
        Edges.due("phase(1, 3)", x.phase(1, 3), Edges.OUTSIDE);
        for (int person : beyond(2)) {
            Edges.due("phase(" + person + ", 0)", x.phase(person, 0), Edges.UNKNOWN);
            Edges.due("phase(" + person + ", -1)", x.phase(person, -1), Edges.UNKNOWN);
            Edges.due("phase(" + person + ", 10)", x.phase(person, 10), Edges.UNKNOWN);
        }
    }

    private static void bribedOrNot() {
        BlownByAll x = Edges.made("O1" + "M110".repeat(12));
        Edges.due("bribe(11, false)", x.bribe(11, false), 0);
        Edges.due("bribe(11, true)", x.bribe(11, true), 1);
        Edges.due("bribe(11, true)", x.bribe(11, true), 0);
        Edges.due("person(11, 4)", x.person(11, 4), 1);
        Edges.due("person(10, 4)", x.person(10, 4), 0);
        Edges.due("bribe(11, false)", x.bribe(11, false), 1);
        Edges.due("bribe(11, false)", x.bribe(11, false), 0);
        Edges.due("person(11, 4)", x.person(11, 4), 0);
        for (int person : beyond(12)) {
            Edges.due("bribe(" + person + ", true)", x.bribe(person, true), Edges.UNKNOWN);
            Edges.due("bribe(" + person + ", false)", x.bribe(person, false), Edges.UNKNOWN);
        }
        Edges.due("count(4)", x.count(4), 0);
    }

    private static void grownToNine() {
        BlownByAll x = Edges.made("O1M110M910M810");
        for (int lungs = 2; lungs <= 9; lungs++) {
            Edges.due("grow(0)", x.grow(0), lungs);
            Edges.due("person(0, 0)", x.person(0, 0), lungs);
        }
        Edges.due("grow(0)", x.grow(0), Edges.STATE);
        Edges.due("grow(1)", x.grow(1), Edges.STATE);
        Edges.due("grow(2)", x.grow(2), 9);
        Edges.due("grow(2)", x.grow(2), Edges.STATE);
        for (int person = 0; person < 3; person++) {
            Edges.due("person(" + person + ", 0)", x.person(person, 0), 9);
        }
        for (int person : beyond(3)) {
            Edges.due("grow(" + person + ")", x.grow(person), Edges.UNKNOWN);
        }
    }

    private static void storeNoneToNine() {
        BlownByAll x = new BlownByAll();
        for (int c = 0; c <= 9; c++) {
            Edges.due("store(" + c + ")", x.store(c), Math.max(0, c - 1));
        }
        for (int c : beyond(10)) {
            Edges.due("store(" + c + ")", x.store(c), Edges.OUTSIDE);
        }
        Edges.due("count(6)", x.count(6), 9);
        Edges.due("store(0)", x.store(0), 9);
    }

    private static void lateNoneTo99() {
        BlownByAll x = new BlownByAll();
        for (int k = 0; k <= 99; k++) {
            Edges.due("late(" + k + ")", x.late(k), Math.max(0, k - 1));
        }
        for (int k : beyond(100)) {
            Edges.due("late(" + k + ")", x.late(k), Edges.OUTSIDE);
        }
        Edges.due("count(5)", x.count(5), 99);
        Edges.due("late(0)", x.late(0), 99);
    }

    private static void phaseWhenMadeAnew() {
        BlownByAll x = Edges.made("O1M210M310/10");
        Edges.due("person(1, 3)", x.person(1, 3), 0);
        x.phase(0, 2);
        x.phase(1, 3);
        Edges.due("organ()", x.organ(), 102);
        Edges.due("person(0, 3)", x.person(0, 3), 0);
        Edges.due("phase(1, 1)", x.phase(1, 1), 0);
    }

    private static void lateWhenMadeAnew() {
        BlownByAll x = Edges.made("O1M210/10");
        Edges.due("late(99)", x.late(99), 0);
        Edges.due("organ()", x.organ(), 101);
        Edges.due("count(5)", x.count(5), 0);
        Edges.due("late(1)", x.late(1), 0);
        // A text that is no organ makes nothing anew.
        x.write(1, 'x');
        Edges.due("organ()", x.organ(), Edges.STATE);
        Edges.due("late(0)", x.late(0), 1);
    }

    private static void storeWhenMadeAnew() {
        BlownByAll x = Edges.made("O1M210/10");
        Edges.due("store(9)", x.store(9), 0);
        Edges.due("organ()", x.organ(), 101);
        Edges.due("count(6)", x.count(6), 0);
        Edges.due("store(1)", x.store(1), 0);
        x.write(1, 'x');
        Edges.due("organ()", x.organ(), Edges.STATE);
        Edges.due("store(0)", x.store(0), 1);
    }

    private static void peopleWhenMadeAnew() {
        BlownByAll x = Edges.made("O12M210M310/10");
        x.bribe(0, true);
        x.seat(0, 1);
        x.grow(0);
        Edges.due("organ()", x.organ(), 202);
        person(x, 0, 2, 1, 0, 0, 0);
        person(x, 1, 3, 1, 0, 0, 0);
        Edges.due("count(4)", x.count(4), 0);
        // What there was of a larger one is not found again in a still larger one.
        x = Edges.made("O1" + "M910".repeat(12));
        x.phase(11, 9);
        for (int person = 0; person < 12; person++) {
            x.bribe(person, true);
        }
        Edges.remade(x, "O1");
        Edges.due("count(4)", x.count(4), 0);
        Edges.remade(x, "O1" + "M910".repeat(12));
        person(x, 11, 9, 1, 0, 0, 0);
    }

    // ---- slots

    private static void slotsNoneToOne() {
        BlownByAll x = Edges.made("O1M110M110");
        Edges.due("keep(0)", x.keep(0), 2);
        Edges.due("keep(1)", x.keep(1), 2);
        for (int slot : beyond(2)) {
            Edges.due("keep(" + slot + ")", x.keep(slot), Edges.UNKNOWN);
            Edges.due("again(" + slot + ")", x.again(slot), Edges.UNKNOWN);
        }
        Edges.due("again(0)", x.again(0), 2);
        Edges.due("again(1)", x.again(1), 2);
        BlownByAll y = new BlownByAll();
        for (int slot : beyond(2)) {
            Edges.due("again(" + slot + ") of none", y.again(slot), Edges.UNKNOWN);
        }
    }

    private static void noneWereKept() {
        BlownByAll x = Edges.made("O1M110");
        Edges.due("again(0)", x.again(0), Edges.STATE);
        Edges.due("again(1)", x.again(1), Edges.STATE);
        x.keep(1);
        Edges.due("again(0)", x.again(0), Edges.STATE);
        Edges.due("again(1)", x.again(1), 1);
        Edges.due("keep(0)", x.keep(0), 1);
        Edges.due("again(0)", x.again(0), 1);
        // A refused one keeps nothing.
        BlownByAll y = Edges.made("O1M110");
        y.keep(2);
        y.keep(-1);
        Edges.due("again(0)", y.again(0), Edges.STATE);
        Edges.due("again(1)", y.again(1), Edges.STATE);
    }

    private static void howManyAreKept() {
        for (int people = 0; people <= 12; people++) {
            BlownByAll x = Edges.made("O1" + "M110".repeat(people));
            Edges.due("keep(1)", x.keep(1), people);
            Edges.due("again(1)", x.again(1), people);
            Edges.due("count(2)", x.count(2), people);
        }
        BlownByAll x = new BlownByAll();
        x.late(7);
        Edges.due("keep(0) of nobody", x.keep(0), 0);
        x.late(8);
        Edges.due("again(0)", x.again(0), 0);
        Edges.due("count(5)", x.count(5), 7);
    }

    private static void allIsKept() {
        BlownByAll x = Edges.made("O12" + "M110".repeat(12) + "/3030");
        x.seat(11, 1);
        x.grow(11);
        x.phase(11, 2);
        x.bribe(11, true);
        x.late(99);
        x.store(9);
        String before = Edges.stateOf(x);
        x.keep(0);
        x.keep(1);
        x.seat(11, 0);
        x.grow(11);
        x.phase(11, 3);
        x.bribe(11, false);
        x.bribe(0, true);
        x.late(0);
        x.store(0);
        x.keep(1);
        String after = Edges.stateOf(x);
        x.again(0);
        person(x, 11, 2, 1, 1, 2, 1);
        person(x, 0, 1, 1, 0, 0, 0);
        Edges.due("as it was kept", Edges.stateOf(x).equals(before) ? 1 : 0, 1);
        x.again(1);
        person(x, 11, 3, 1, 0, 3, 0);
        Edges.due("as it was kept later", Edges.stateOf(x).equals(after) ? 1 : 0, 1);
    }

    private static void keptIsNotTouched() {
        BlownByAll x = Edges.made("O12M210/10");
        x.keep(0);
        x.phase(0, 2);
        x.again(0);
        Edges.due("person(0, 3)", x.person(0, 3), 0);
        // What is told after going back isn't told to what is kept.
        x.grow(0);
        x.seat(0, 1);
        x.bribe(0, true);
        x.late(5);
        x.store(5);
        Edges.due("again(0)", x.again(0), 1);
        person(x, 0, 2, 1, 0, 0, 0);
        counts(x, 10, 2, 1, 1, 0, 0, 0);
        // THE TEXT is not kept.
        x.wipe();
        x.again(0);
        Edges.due("count(0)", x.count(0), 0);
    }

    // ---- count

    private static void countLeastAndMost() {
        counts(new BlownByAll(), 0, 1, 0, 0, 0, 0, 0);
        BlownByAll x = Edges.made(Edges.LONGEST);
        for (int person = 0; person < 12; person++) {
            x.bribe(person, true);
        }
        x.late(99);
        x.store(9);
        counts(x, 104, 6, 12, 24, 12, 99, 9);
        x.bribe(0, false);
        x.bribe(11, false);
        Edges.due("count(4)", x.count(4), 10);
    }

    private static void countOfWhat() {
        for (int what : beyond(7)) {
            Edges.due("count(" + what + ")", new BlownByAll().count(what), Edges.OUTSIDE);
        }
    }

    private static void organEdges() {
        Edges.edge("Terms", "NONE is -9", StateEdgesTest::refusalsAndNone);
        Edges.edge("1 A new object", "One PIPE, nobody.", StateEdgesTest::onePipeNobody);
        Edges.edge("1 ORGAN", "At first THE ORGAN is O1.", StateEdgesTest::asIfMadeOfO1);
        Edges.edge("1 A new object", "One PIPE, nobody.", StateEdgesTest::eachObjectByItself);
        Edges.edge("What it is", "An object is used for at most 512 calls", StateEdgesTest::the512thCall);
        Edges.edge("6 drinks", "What a PIPE DRINKS. UNKNOWN.", StateEdgesTest::drinksOfEachPipe);
        Edges.edge("1 ORGAN", "of PIPES 0 to 2 by the first one, of 3 to 5 by the second one", StateEdgesTest::soundsByBits);
        Edges.edge("7 sounds", "UNKNOWN: pipe, beat.", StateEdgesTest::soundsAtTheLastBeat);
        Edges.edge("8 person", "1 if it is BRIBED (4). UNKNOWN; OUTSIDE.", StateEdgesTest::whatOfAPerson);
        Edges.edge("8 person", "UNKNOWN; OUTSIDE.", StateEdgesTest::firstAndLastPerson);
    }

    private static void toldEdges() {
        Edges.edge("9 seat", "UNKNOWN: person, pipe.", StateEdgesTest::seatsFirstToLast);
        Edges.edge("9 seat", "It sits at a PIPE: at which it sat.", StateEdgesTest::allSeatedAtOnePipe);
        Edges.edge("10 phase", "OUTSIDE: s (0 to its lungs).", StateEdgesTest::phaseNoneToLungs);
        Edges.edge("10 phase", "UNKNOWN; OUTSIDE: s (0 to its lungs).", StateEdgesTest::phaseByItsOwnLungs);
        Edges.edge("11 bribe", "1 if that is otherwise than it was, 0. UNKNOWN.", StateEdgesTest::bribedOrNot);
        Edges.edge("12 grow", "UNKNOWN; STATE: 9.", StateEdgesTest::grownToNine);
        Edges.edge("13 store", "c: what it was. OUTSIDE.", StateEdgesTest::storeNoneToNine);
        Edges.edge("14 late", "LATE: what it was. OUTSIDE.", StateEdgesTest::lateNoneTo99);
        Edges.edge("1 PHASE", "0 at first, and when THE ORGAN is made anew", StateEdgesTest::phaseWhenMadeAnew);
        Edges.edge("1 LATE", "LATE (0 to 99; 0 at first; likewise)", StateEdgesTest::lateWhenMadeAnew);
        Edges.edge("1 STORE", "holds c at most (0 to 9; 0 at first; likewise)", StateEdgesTest::storeWhenMadeAnew);
        Edges.edge("5 organ", "THE TEXT is THE ORGAN", StateEdgesTest::peopleWhenMadeAnew);
    }

    private static void slotEdges() {
        Edges.edge("32 keep", "They are kept: how many PEOPLE. UNKNOWN.", StateEdgesTest::slotsNoneToOne);
        Edges.edge("33 again", "UNKNOWN; STATE: none were kept.", StateEdgesTest::noneWereKept);
        Edges.edge("33 again", "They are as they were kept: how many PEOPLE.", StateEdgesTest::howManyAreKept);
        Edges.edge("3 SLOTS", "keep PEOPLE (where they sit, lungs, PHASES, who is BRIBED), LATE, c.", StateEdgesTest::allIsKept);
        Edges.edge("33 again", "They are as they were kept", StateEdgesTest::keptIsNotTouched);
        Edges.edge("34 count", "0 bytes of THE TEXT, 1 PIPES, 2 PEOPLE, 3 BEATS, 4 BRIBED ones, 5 LATE, 6 c.",
                StateEdgesTest::countLeastAndMost);
        Edges.edge("34 count", "OUTSIDE.", StateEdgesTest::countOfWhat);
    }

    public static void main(String[] args) {
        organEdges();
        toldEdges();
        slotEdges();
        Edges.finish();
    }
}
