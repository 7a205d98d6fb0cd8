/** Each promise of the document by its number: worked out by hand, with its edges and its refusals. */
public final class PromisesTest {
    private static int wrong = 0;
    private static int promise = 0;

    private static void due(String call, long got, long want) {
        if (got != want) {
            wrong++;
            System.out.println("promise " + promise + ": " + call + " answered " + got + ", due is " + want);
        }
    }

    private static void put(BlownByAll x, String text) {
        x.wipe();
        for (int i = 0; i < text.length(); i += 8) {
            int n = Math.min(8, text.length() - i);
            long v = 0;
            for (int k = 0; k < n; k++) {
                v = v << 8 | text.charAt(i + k);
            }
            due("write of " + text, x.write(n, v), i + n);
        }
    }

    private static BlownByAll made(String text) {
        BlownByAll x = new BlownByAll();
        put(x, text);
        if (x.organ() < 0) {
            wrong++;
            System.out.println("promise " + promise + ": no organ: " + text);
        }
        return x;
    }

    private static int faultOf(String text) {
        BlownByAll x = new BlownByAll();
        put(x, text);
        return x.fault();
    }

    /** All that can be asked of the state without changing it. */
    private static String stateOf(BlownByAll x) {
        StringBuilder all = new StringBuilder();
        for (int what = 0; what <= 6; what++) {
            all.append(x.count(what)).append(' ');
        }
        for (int i = 0; i < x.count(1); i++) {
            all.append(x.drinks(i));
            for (int j = 0; j < x.count(3); j++) {
                all.append(x.sounds(i, j)).append(x.stored(i, j)).append(x.sags(i, j));
            }
            all.append(' ');
        }
        for (int i = 0; i < x.count(2); i++) {
            for (int what = 0; what <= 4; what++) {
                all.append(x.person(i, what));
            }
            all.append(' ');
        }
        return all.append(x.fault()).toString();
    }

    private static void same(String call, BlownByAll x, String before) {
        String now = stateOf(x);
        if (!now.equals(before)) {
            wrong++;
            System.out.println("promise " + promise + ": " + call + " changed " + before + " to " + now);
        }
    }

    private static final int LEAST = Integer.MIN_VALUE, MOST = Integer.MAX_VALUE;

    private static void aNewObject() {
        promise = 1;
        BlownByAll x = new BlownByAll();
        int[] counts = {0, 1, 0, 0, 0, 0, 0};
        for (int what = 0; what <= 6; what++) {
            due("count(" + what + ")", x.count(what), counts[what]);
        }
        due("drinks(0)", x.drinks(0), 1);
        due("wipe()", x.wipe(), 0);
        due("fault()", x.fault(), 0);
        due("organ()", x.organ(), -3);
        due("again(0)", x.again(0), -3);
        due("again(1)", x.again(1), -3);
    }

    private static void write() {
        promise = 2;
        BlownByAll x = new BlownByAll();
        due("write(0)", x.write(0, 79), -2);
        due("write(9)", x.write(9, 79), -2);
        due("write(-1)", x.write(-1, 79), -2);
        due("write(LEAST)", x.write(LEAST, 79), -2);
        due("write(MOST)", x.write(MOST, 79), -2);
        due("count(0)", x.count(0), 0);
        // The lowest bytes, the highest of these first: what stands above them does not come.
        due("write(2)", x.write(2, 0x7777774F39L), 2);
        due("organ()", x.organ(), 100);
        due("drinks(0)", x.drinks(0), 9);
        due("write(1, -1)", x.write(1, -1), 3);
        due("fault()", x.fault(), 2);
        x.wipe();
        for (int i = 1; i <= 12; i++) {
            due("write(8)", x.write(8, -1L << 63), 8 * i);
        }
        due("write(7)", x.write(7, 0), 103);
        due("write(2)", x.write(2, 0), -4);
        due("write(9)", x.write(9, 0), -2);
        due("count(0)", x.count(0), 103);
        due("write(1)", x.write(1, 0), 104);
        due("write(1)", x.write(1, 0), -4);
        due("write(0)", x.write(0, 0), -2);
        due("count(0)", x.count(0), 104);
    }

    private static void wipe() {
        promise = 3;
        BlownByAll x = made("O23M210");
        due("wipe()", x.wipe(), 7);
        due("wipe()", x.wipe(), 0);
        due("fault()", x.fault(), 0);
        due("drinks(1)", x.drinks(1), 3);
        due("count(2)", x.count(2), 1);
    }

    private static void fault() {
        promise = 4;
        String twelve = "M111M121M130M110M910M820M735M614M513M412M310M210";
        String[] good = {"O1", "O9", "O123456", "O1M110", "O12M931", "O1/10", "O1/00", "O12/30", "O123/70", "O1234/71",
            "O12345/73", "O123456/77", "O123456" + twelve, "O123456" + twelve + "/" + "77".repeat(24)};
        for (String text : good) {
            due("fault() of " + text, faultOf(text), -9);
        }
        due("longest", good[good.length - 1].length(), 104);
        // Wrong at its last byte: the place of it, whatever comes behind.
        String[] bad = {"X", "o", "\0", "\u00cf", "O0", "OM", "O/", "O1O", "O10", "O1:", "O1234567", "O1M0", "O1M:",
            "O1M10", "O1M14", "O1M111", "O1MM", "O12M112", "O123456M116", "O1M110M/", "O1M1101", "O1M110O", "O1//",
            "O1/2", "O1/11", "O12/4", "O123/8", "O123/71", "O1234/72", "O12345/74", "O123456/78", "O1/M", "O1/10/",
            "O1/10M", "O1/102", "O123456" + twelve + "M", "O1/" + "10".repeat(24) + "1", "O1\u00b1", "O1M11\u00b0"};
        for (String text : bad) {
            due("fault() of " + text, faultOf(text), text.length() - 1);
            if (text.length() < 104) {
                due("fault() of " + text + "/", faultOf(text + "/"), text.length() - 1);
            }
        }
        // Only not at its end.
        String[] open = {"", "O", "O1M", "O1M1", "O1M11", "O1M110M", "O1M110M11", "O1/", "O1/1", "O1/101", "O123456M115/"};
        for (String text : open) {
            due("fault() of " + text, faultOf(text), text.length());
        }
    }

    private static void organ() {
        promise = 5;
        BlownByAll x = made("O345M210M121/1000");
        due("count(3)", x.count(3), 2);
        due("count(0)", x.count(0), 17);
        x.phase(0, 2);
        x.bribe(1, true);
        x.seat(0, 2);
        x.grow(0);
        x.late(5);
        x.store(4);
        x.keep(0);
        x.keep(1);
        String before = stateOf(x);
        x.write(1, 'x');
        due("organ()", x.organ(), -3);
        due("again(1)", x.again(1), 2);
        x.wipe();
        put(x, "O345M210M121/1000");
        same("organ() by a fault", x, before);
        due("organ()", x.organ(), 302);
        due("again(0)", x.again(0), -3);
        due("again(1)", x.again(1), -3);
        due("person(0, 0)", x.person(0, 0), 2);
        due("person(0, 2)", x.person(0, 2), 0);
        due("person(0, 3)", x.person(0, 3), 0);
        due("person(1, 4)", x.person(1, 4), 0);
        due("count(4)", x.count(4), 0);
        due("count(5)", x.count(5), 0);
        due("count(6)", x.count(6), 0);
        due("count(0)", x.count(0), 17);
        put(x, "O7");
        due("organ()", x.organ(), 100);
        due("count(2)", x.count(2), 0);
        due("count(3)", x.count(3), 0);
        due("drinks(1)", x.drinks(1), -1);
        put(x, "O123456" + "M935".repeat(12) + "/" + "77".repeat(24));
        due("organ()", x.organ(), 612);
        due("count(3)", x.count(3), 24);
        due("sounds(5, 23)", x.sounds(5, 23), 1);
        due("person(11, 2)", x.person(11, 2), 5);
    }

    private static void drinksSoundsPerson() {
        promise = 6;
        BlownByAll x = made("O9182M431M923/50017121");
        int[] drinks = {9, 1, 8, 2};
        for (int i = 0; i < 4; i++) {
            due("drinks(" + i + ")", x.drinks(i), drinks[i]);
        }
        int[] no = {-1, 4, LEAST, MOST};
        for (int i : no) {
            due("drinks(" + i + ")", x.drinks(i), -1);
        }
        promise = 7;
        int[][] sounds = {{1, 0, 1, 0}, {0, 0, 0, 1}, {1, 1, 1, 1}, {0, 1, 0, 1}};
        for (int j = 0; j < 4; j++) {
            for (int i = 0; i < 4; i++) {
                due("sounds(" + i + ", " + j + ")", x.sounds(i, j), sounds[j][i]);
            }
        }
        for (int i : no) {
            due("sounds(" + i + ", 0)", x.sounds(i, 0), -1);
            due("sounds(0, " + i + ")", x.sounds(0, i), -1);
        }
        promise = 8;
        x.phase(1, 7);
        x.bribe(1, true);
        int[][] people = {{4, 3, 1, 0, 0}, {9, 2, 3, 7, 1}};
        for (int i = 0; i < 2; i++) {
            for (int what = 0; what < 5; what++) {
                due("person(" + i + ", " + what + ")", x.person(i, what), people[i][what]);
            }
        }
        int[] nobody = {-1, 2, LEAST, MOST};
        for (int i : nobody) {
            due("person(" + i + ", 0)", x.person(i, 0), -1);
            due("person(" + i + ", 5)", x.person(i, 5), -1);
        }
        int[] nothing = {-1, 5, LEAST, MOST};
        for (int what : nothing) {
            due("person(0, " + what + ")", x.person(0, what), -2);
        }
    }

    private static void told() {
        BlownByAll x = made("O23M211M510/1030");
        String before = stateOf(x);
        int[] nobody = {-1, 2, LEAST, MOST};
        for (int i : nobody) {
            promise = 9;
            due("seat(" + i + ", 0)", x.seat(i, 0), -1);
            due("seat(0, " + i + ")", x.seat(0, i), -1);
            promise = 10;
            due("phase(" + i + ", 0)", x.phase(i, 0), -1);
            due("phase(" + i + ", 99)", x.phase(i, 99), -1);
            promise = 11;
            due("bribe(" + i + ")", x.bribe(i, true), -1);
            promise = 12;
            due("grow(" + i + ")", x.grow(i), -1);
        }
        promise = 10;
        due("phase(0, 3)", x.phase(0, 3), -2);
        due("phase(0, -1)", x.phase(0, -1), -2);
        due("phase(1, 6)", x.phase(1, 6), -2);
        promise = 13;
        int[] stores = {-1, 10, LEAST, MOST};
        for (int c : stores) {
            due("store(" + c + ")", x.store(c), -2);
        }
        promise = 14;
        int[] lates = {-1, 100, LEAST, MOST};
        for (int k : lates) {
            due("late(" + k + ")", x.late(k), -2);
        }
        same("a refusal", x, before);
        promise = 9;
        due("seat(0, 0)", x.seat(0, 0), 1);
        due("seat(0, 1)", x.seat(0, 1), 0);
        due("seat(0, 1)", x.seat(0, 1), 1);
        due("person(0, 2)", x.person(0, 2), 1);
        due("person(1, 2)", x.person(1, 2), 0);
        promise = 10;
        due("phase(0, 2)", x.phase(0, 2), 0);
        due("phase(0, 1)", x.phase(0, 1), 2);
        due("person(0, 3)", x.person(0, 3), 1);
        promise = 11;
        due("bribe(1, false)", x.bribe(1, false), 0);
        due("bribe(1, true)", x.bribe(1, true), 1);
        due("bribe(1, true)", x.bribe(1, true), 0);
        due("count(4)", x.count(4), 1);
        due("bribe(1, false)", x.bribe(1, false), 1);
        due("count(4)", x.count(4), 0);
        promise = 12;
        for (int l = 3; l <= 9; l++) {
            due("grow(0)", x.grow(0), l);
        }
        due("grow(0)", x.grow(0), -3);
        due("person(0, 0)", x.person(0, 0), 9);
        due("person(0, 3)", x.person(0, 3), 1);
        due("person(1, 0)", x.person(1, 0), 5);
        due("phase(0, 9)", x.phase(0, 9), 1);
        promise = 13;
        due("store(9)", x.store(9), 0);
        due("store(0)", x.store(0), 9);
        promise = 14;
        due("late(99)", x.late(99), 0);
        due("late(0)", x.late(0), 99);
    }

    private static void mass() {
        // Lungs 2, force 2 at PIPE 0: at TIMES 0, 1 it GIVES, at 2 it breathes in.
        BlownByAll x = made("O31M220M111/10001000101030");
        promise = 15;
        int[] gives = {2, 2, 0, 2, 2, 0, 2};
        for (int j = 0; j < 7; j++) {
            due("gives(0, " + j + ")", x.gives(0, j), gives[j]);
        }
        x.phase(0, 1);
        due("gives(0, 1)", x.gives(0, 1), 0);
        due("gives(0, 2)", x.gives(0, 2), 2);
        x.late(1);
        due("gives(0, 0)", x.gives(0, 0), 0);
        due("gives(0, 3)", x.gives(0, 3), 0);
        x.late(99);
        due("gives(0, 1)", x.gives(0, 1), 0);
        x.bribe(0, true);
        due("gives(0, 1)", x.gives(0, 1), 2);
        x.bribe(0, false);
        x.phase(0, 0);
        x.late(0);
        promise = 16;
        int[] second = {1, 0, 1, 0, 1, 0, 1};
        for (int j = 0; j < 7; j++) {
            due("air(0, " + j + ")", x.air(0, j), gives[j]);
            due("air(1, " + j + ")", x.air(1, j), second[j]);
        }
        x.seat(1, 0);
        due("air(0, 0)", x.air(0, 0), 3);
        due("air(1, 0)", x.air(1, 0), 0);
        x.seat(1, 1);
        checkStores(x);
        checkUnknown(x);
    }

    private static void checkStores(BlownByAll x) {
        // PIPE 0 DRINKS 3 at BEATS 0, 2, 4, 5, 6; AIR is 2 2 0 2 2 0 2.
        int[][] stored = {{0, 0, 0, 0, 0, 0, 0}, {0, 1, 0, 1, 0, 0, 0}, {0, 2, 0, 2, 1, 0, 0}, {0, 2, 0, 2, 1, 0, 0}};
        int[][] sags = {{1, 0, 3, 0, 1, 3, 1}, {1, 0, 2, 0, 0, 3, 1}, {1, 0, 1, 0, 0, 2, 1}, {1, 0, 1, 0, 0, 2, 1}};
        int[] caps = {0, 1, 2, 9};
        for (int k = 0; k < caps.length; k++) {
            x.store(caps[k]);
            int sum = 0;
            for (int j = 0; j < 7; j++) {
                promise = 17;
                due("c " + caps[k] + ", stored(0, " + j + ")", x.stored(0, j), stored[k][j]);
                promise = 18;
                due("c " + caps[k] + ", sags(0, " + j + ")", x.sags(0, j), sags[k][j]);
                sum += sags[k][j];
            }
            promise = 19;
            due("total()", x.total(), sum);
            promise = 20;
            due("first()", x.first(), 0);
            promise = 21;
            due("worst()", x.worst(), 0);
        }
        x.store(2);
        promise = 17;
        // PIPE 1 is silent up to the last BEAT: it fills to c, and no more.
        int[] silent = {1, 1, 2, 2, 2, 2, 2};
        for (int j = 0; j < 7; j++) {
            due("stored(1, " + j + ")", x.stored(1, j), silent[j]);
        }
    }

    private static void checkUnknown(BlownByAll x) {
        int[] no = {-1, 2, LEAST, MOST};
        int[] noBeat = {-1, 7, LEAST, MOST};
        for (int k = 0; k < no.length; k++) {
            promise = 15;
            due("gives(no)", x.gives(no[k], 0), -1);
            due("gives(no beat)", x.gives(0, noBeat[k]), -1);
            promise = 16;
            due("air(no)", x.air(no[k], 0), -1);
            due("air(no beat)", x.air(0, noBeat[k]), -1);
            promise = 17;
            due("stored(no)", x.stored(no[k], 0), -1);
            due("stored(no beat)", x.stored(0, noBeat[k]), -1);
            promise = 18;
            due("sags(no)", x.sags(no[k], 0), -1);
            due("sags(no beat)", x.sags(0, noBeat[k]), -1);
        }
    }

    private static void firstAndWorst() {
        // Nobody blows: what sounds SAGS by what it DRINKS.
        BlownByAll x = made("O2422/0010100061");
        promise = 19;
        due("total()", x.total(), 2 + 2 + 4 + 2 + 2);
        promise = 20;
        due("first()", x.first(), 10);
        promise = 21;
        due("worst()", x.worst(), 0);
        x = made("O121/00700030");
        promise = 20;
        due("first()", x.first(), 10);
        promise = 21;
        due("worst()", x.worst(), 1);
        // A PIPE sags first at a later BEAT though it is the first one.
        x = made("O1111/00400110");
        promise = 20;
        due("first()", x.first(), 12);
        promise = 21;
        due("worst()", x.worst(), 0);
        x = made("O1M130/10");
        promise = 19;
        due("total()", x.total(), 0);
        promise = 20;
        due("first()", x.first(), -9);
        promise = 21;
        due("worst()", x.worst(), -9);
    }

    private static void bestLate() {
        promise = 22;
        // It breathes in at TIME 1, then each other TIME: LATE 1 keeps it blowing at BEAT 1 and on.
        BlownByAll x = made("O1M110/0010001000");
        due("bestLate()", x.bestLate(), 1);
        x.late(50);
        due("bestLate()", x.bestLate(), 1);
        due("count(5)", x.count(5), 50);
        x.phase(0, 1);
        due("bestLate()", x.bestLate(), 0);
        // At LATE 0 it breathes in at BEAT 9, at LATE 1 at BEAT 8, which is silent.
        x = made("O2M910/" + "10" + "00".repeat(8) + "10");
        due("total()", x.total(), 1 + 2);
        due("bestLate()", x.bestLate(), 1);
        // One breath is in any ten BEATS: of like ones the least.
        x = made("O1M910/" + "10".repeat(10));
        due("bestLate()", x.bestLate(), 0);
        due("bestLate() of a rest", made("O1/00").bestLate(), 0);
        due("bestLate() of nothing", new BlownByAll().bestLate(), 0);
        lastLates();
    }

    private static void lastLates() {
        // They breathe in at even TIMES; 0, 3, 6, 9; 1, 4, 7, 10; 1, 5, 9: all GIVE at 11 first.
        BlownByAll x = made("O4M110M210M210M310/10");
        int[] phases = {1, 2, 1, 2};
        for (int i = 0; i < 4; i++) {
            x.phase(i, phases[i]);
        }
        due("bestLate()", x.bestLate(), 11);
        // They breathe in at odd TIMES; 1, 4, 7, 10; 2, 5, 8, 11; 0, 5, 10; 1, 6, 11: all GIVE at 12 first.
        x = made("O5M110M210M210M410M410/10");
        int[] later = {0, 1, 0, 4, 3};
        for (int i = 0; i < 5; i++) {
            x.phase(i, later[i]);
        }
        x.late(12);
        due("total()", x.total(), 0);
        due("bestLate()", x.bestLate(), 0);
    }

    private static void phases() {
        BlownByAll x = made("O11M110M111M110/10101010");
        promise = 23;
        due("phases(0)", x.phases(0), 0);
        due("phases(1)", x.phases(1), 0);
        promise = 24;
        due("phaseAt(0, 0)", x.phaseAt(0, 0), 0);
        due("phaseAt(0, 1)", x.phaseAt(0, 1), 1);
        due("phaseAt(0, 2)", x.phaseAt(0, 2), -9);
        due("phaseAt(0, -1)", x.phaseAt(0, -1), -9);
        due("phaseAt(0, MOST)", x.phaseAt(0, MOST), -9);
        due("phaseAt(0, LEAST)", x.phaseAt(0, LEAST), -9);
        due("phaseAt(1, 0)", x.phaseAt(1, 0), 0);
        due("phaseAt(1, 1)", x.phaseAt(1, 1), -9);
        due("phaseAt(2, 0)", x.phaseAt(2, 0), -1);
        due("phaseAt(-1, 0)", x.phaseAt(-1, 0), -1);
        due("person(2, 3)", x.person(2, 3), 0);
        promise = 23;
        due("phases(2)", x.phases(2), -1);
        due("phases(-1)", x.phases(-1), -1);
        due("phases(MOST)", x.phases(MOST), -1);
        // LATE counts: a lone one breathes in at BEAT 0 by PHASE 0, if it is 1.
        x = made("O1M210/10");
        x.late(2);
        due("phases(0)", x.phases(0), 0);
        promise = 24;
        due("phaseAt(0, 0)", x.phaseAt(0, 0), 1);
        x.bribe(0, true);
        due("phaseAt(0, 0)", x.phaseAt(0, 0), 0);
        // A STORE helps: c 1 lets it breathe in at BEAT 1 after a rest.
        x = made("O1M110/001000");
        promise = 23;
        x.store(1);
        due("phases(0)", x.phases(0), 0);
        promise = 24;
        due("phaseAt(0, 0)", x.phaseAt(0, 0), 0);
        x.store(0);
        due("phaseAt(0, 0)", x.phaseAt(0, 0), 1);
        four();
    }

    private static void four() {
        phasesOfOthers();
        // Three of four are to blow at each BEAT, so they take turns: 0, 1, 2, 3.
        BlownByAll x = made("O3M310M310M310M310/" + "10".repeat(24));
        promise = 23;
        due("phases(0)", x.phases(0), 0);
        promise = 24;
        for (int i = 0; i < 4; i++) {
            due("phaseAt(0, " + i + ")", x.phaseAt(0, i), i);
        }
        due("phaseAt(0, 4)", x.phaseAt(0, 4), -9);
        x = made("O91M110M110M110M110M110/10");
        promise = 23;
        due("phases(0)", x.phases(0), -3);
        due("phases(1)", x.phases(1), 0);
        due("phases(2)", x.phases(2), -1);
        promise = 24;
        due("phaseAt(0, 0)", x.phaseAt(0, 0), -3);
        due("phaseAt(0, 9)", x.phaseAt(0, 9), -3);
        due("phaseAt(2, 0)", x.phaseAt(2, 0), -1);
        x.seat(0, 1);
        promise = 23;
        due("phases(0)", x.phases(0), 5);
    }

    private static void phasesOfOthers() {
        // Those of PIPE 1 are PEOPLE 1 and 3; PHASES of the others don't count, LATE does.
        BlownByAll x = made("O91M930M121M930M111/20202020");
        x.late(3);
        promise = 23;
        due("phases(1)", x.phases(1), 0);
        due("phases(0)", x.phases(0), 0);
        promise = 24;
        due("phaseAt(1, 0)", x.phaseAt(1, 0), 0);
        due("phaseAt(1, 1)", x.phaseAt(1, 1), 1);
        // One breath falls on the note if it is not put elsewhere: lungs 3 at TIME 5 breathe in by PHASE 2.
        x = made("O1M310/0010");
        x.late(4);
        promise = 23;
        due("phases(0)", x.phases(0), 0);
        promise = 24;
        due("phaseAt(0, 0)", x.phaseAt(0, 0), 0);
        x.late(6);
        due("phaseAt(0, 0)", x.phaseAt(0, 0), 1);
    }

    private static void seats() {
        // Force 3 belongs to the PIPE that DRINKS 3; the other one to the other.
        BlownByAll x = made("O13M930M911/30");
        promise = 25;
        due("total()", x.total(), 2);
        due("seats()", x.seats(), 0);
        promise = 26;
        due("seatAt(0)", x.seatAt(0), 1);
        due("seatAt(1)", x.seatAt(1), 0);
        due("seatAt(2)", x.seatAt(2), -1);
        due("seatAt(-1)", x.seatAt(-1), -1);
        due("seatAt(MOST)", x.seatAt(MOST), -1);
        due("person(0, 2)", x.person(0, 2), 0);
        // Of like ones the first.
        x = made("O222222M910M915M914/77");
        promise = 25;
        due("seats()", x.seats(), 9);
        promise = 26;
        for (int i = 0; i < 2; i++) {
            due("seatAt(" + i + ")", x.seatAt(i), 0);
        }
        due("seatAt(2)", x.seatAt(2), 1);
        // Six PEOPLE, six PIPES: each by its force.
        x = made("O321321M910M920M930M910M920M930/77");
        promise = 25;
        due("seats()", x.seats(), 0);
        promise = 26;
        int[] found = {2, 1, 0, 5, 4, 3};
        for (int i = 0; i < 6; i++) {
            due("seatAt(" + i + ")", x.seatAt(i), found[i]);
        }
        x = made("O1M910M910M910M910M910M910M910/10");
        promise = 25;
        due("seats()", x.seats(), -3);
        promise = 26;
        due("seatAt(0)", x.seatAt(0), -3);
        due("seatAt(6)", x.seatAt(6), -3);
        due("seatAt(7)", x.seatAt(7), -1);
        promise = 25;
        due("seats() of nobody", made("O12/30").seats(), 3);
        // PHASES and LATE as they are: PERSON 0 breathes in at TIME 1.
        x = made("O11M110M910/1020");
        due("seats()", x.seats(), 0);
        promise = 26;
        due("seatAt(0)", x.seatAt(0), 0);
        due("seatAt(1)", x.seatAt(1), 1);
        x.late(1);
        due("seatAt(0)", x.seatAt(0), 1);
        due("seatAt(1)", x.seatAt(1), 0);
    }

    private static void bribes() {
        promise = 27;
        BlownByAll x = made("O2M110M110M110/1010");
        // At BEAT 1 all breathe in: two are to hold their breath.
        due("bribes()", x.bribes(), 3);
        due("count(4)", x.count(4), 0);
        x.bribe(1, true);
        due("bribes()", x.bribes(), 1);
        x.bribe(2, true);
        due("bribes()", x.bribes(), 0);
        // One strong one is fewer than two weak ones, though its bit is higher.
        x = made("O2M110M110M120/0010");
        due("bribes()", x.bribes(), 4);
        // At two PIPES.
        x = made("O12M121M110M110M111/0030");
        due("bribes()", x.bribes(), 3);
        x.phase(0, 1);
        due("bribes()", x.bribes(), 2);
        x.late(1);
        due("bribes()", x.bribes(), 1);
        due("bribes()", made("O3M920/10").bribes(), -9);
        due("bribes()", made("O31M920/20").bribes(), -9);
        due("bribes()", made("O31M920/00").bribes(), 0);
        due("bribes()", made("O1/10").bribes(), -9);
        due("bribes()", new BlownByAll().bribes(), 0);
        // The STORE counts.
        x = made("O3M120M110/0010");
        due("bribes()", x.bribes(), 3);
        x.store(2);
        due("bribes()", x.bribes(), 1);
        x.store(3);
        due("bribes()", x.bribes(), 0);
        x = made("O9" + "M110".repeat(12) + "/0010");
        due("bribes()", x.bribes(), 511);
        x.bribe(0, true);
        x.bribe(5, true);
        due("bribes()", x.bribes(), 511 - 33);
    }

    private static void needed() {
        promise = 28;
        BlownByAll x = made("O21M110M120M111/10103030");
        // AIR of PIPE 0 is 3 0 3 0: SAGS 0 2 0 2; of PIPE 1 1 0 1 0: 0 at BEAT 2, 1 at BEAT 3.
        due("total()", x.total(), 5);
        due("needed(0)", x.needed(0), 0);
        due("needed(1)", x.needed(1), 2);
        due("needed(2)", x.needed(2), 1);
        x.bribe(0, true);
        due("needed(0)", x.needed(0), 2);
        x.bribe(0, false);
        // What is left of 3 is stored.
        x.store(1);
        due("needed(0)", x.needed(0), 2);
        due("needed(3)", x.needed(3), -1);
        due("needed(-1)", x.needed(-1), -1);
        due("needed(MOST)", x.needed(MOST), -1);
        due("count(2)", x.count(2), 3);
    }

    private static void never() {
        promise = 29;
        BlownByAll x = made("O142M910M921/002060");
        due("never()", x.never(), 11);
        x.store(1);
        due("never()", x.never(), 11);
        x.store(2);
        due("never()", x.never(), -9);
        x.store(1);
        x.seat(0, 1);
        due("never()", x.never(), 22);
        x.store(2);
        due("never()", x.never(), -9);
        // It SAGS, but by breath alone.
        x = made("O1M110/1010");
        due("first()", x.first(), 10);
        due("never()", x.never(), -9);
        due("never()", made("O9/00").never(), -9);
        due("never()", made("O1/10").never(), 0);
        due("never()", made("O1/" + "00".repeat(23) + "10").never(), 230);
        due("never()", made("O111111/" + "00".repeat(9) + "04").never(), 95);
    }

    private static void fraction(String call, long above, long below, long wantAbove, long wantBelow) {
        due(call + " above", above, wantAbove);
        due(call + " below", below, wantBelow);
    }

    private static void steadyDue(BlownByAll x, int pipe, int beat, int tenths, long above, long below) {
        String call = "steady(" + pipe + ", " + beat + ", " + tenths + ")";
        fraction(call, x.steady(pipe, beat, tenths, true), x.steady(pipe, beat, tenths, false), above, below);
    }

    private static void blameDue(BlownByAll x, int person, int beat, int tenths, long above, long below) {
        String call = "blame(" + person + ", " + beat + ", " + tenths + ")";
        fraction(call, x.blame(person, beat, tenths, true), x.blame(person, beat, tenths, false), above, below);
    }

    private static void sneezes() {
        BlownByAll x = made("O23M210M120M111/1010");
        promise = 30;
        // PIPE 0 wants 2; at BEAT 0 the second one alone is enough, at BEAT 1 it breathes in.
        steadyDue(x, 0, 0, 3, 7, 10);
        steadyDue(x, 0, 1, 3, 0, 1);
        steadyDue(x, 0, 0, 0, 1, 1);
        steadyDue(x, 0, 0, 10, 0, 1);
        steadyDue(x, 1, 0, 0, 0, 1);
        x.bribe(1, true);
        steadyDue(x, 0, 1, 5, 1, 2);
        // STORES are set aside, and so is whether it sounds.
        x.store(9);
        steadyDue(x, 0, 1, 5, 1, 2);
        x.seat(2, 0);
        // 1, 2, 1 GIVE at BEAT 0: 2 is got by the second, or else by both others.
        steadyDue(x, 0, 0, 5, 5, 8);
        steadyDue(x, 0, 0, 1, 981, 1000);
        promise = 31;
        // Less than 2: the second sneezed, and at least one other: 19 in 1000.
        blameDue(x, 1, 0, 1, 1, 1);
        blameDue(x, 0, 0, 1, 10, 19);
        blameDue(x, 2, 0, 1, 10, 19);
        blameDue(x, 0, 0, 10, 1, 1);
        // The third breathes in at BEAT 1, so it never sneezes then.
        blameDue(x, 2, 1, 5, 0, 1);
        blameDue(x, 0, 0, 0, -3, -3);
        x.seat(1, 1);
        x.seat(2, 1);
        // At PIPE 0 just 1 is left, which is less anyway.
        blameDue(x, 0, 0, 0, 0, 1);
        blameDue(x, 0, 0, 4, 2, 5);
        twelve();
        lateSneezes();
        refusedSneezes(x);
    }

    private static void twelve() {
        BlownByAll x = made("O9" + "M930".repeat(12) + "/10");
        promise = 30;
        // Three of twelve are enough: 1 less 1e-12 less 12 * 9e-12 less 66 * 81e-12, by x 9 tenths turned round.
        long cases = 1L * 1 + 12L * 9 + 66L * 81;
        long below = 1000000000000L;
        long above = below - cases;
        long common = gcd(above, below);
        steadyDue(x, 0, 0, 1, above / common, below / common);
        promise = 31;
        // With one of them sneezing: 11 others, at most 2 of which don't.
        long guilty = 1L + 11 * 9 + 55 * 81;
        common = gcd(guilty, cases);
        blameDue(x, 11, 0, 1, guilty / common, cases / common);
    }

    private static void lateSneezes() {
        // Lungs 2 and 3: at LATE 2 the first breathes in at BEAT 0, the second at BEAT 1.
        BlownByAll x = made("O2M210M310/1010");
        x.late(2);
        promise = 30;
        steadyDue(x, 0, 0, 0, 0, 1);
        x.late(4);
        steadyDue(x, 0, 0, 1, 81, 100);
        steadyDue(x, 0, 1, 1, 0, 1);
        promise = 31;
        blameDue(x, 0, 0, 5, 2, 3);
        blameDue(x, 0, 1, 5, 0, 1);
        blameDue(x, 1, 1, 5, 1, 2);
        x.late(2);
        blameDue(x, 0, 0, 5, 0, 1);
        blameDue(x, 1, 0, 5, 1, 2);
        blameDue(x, 1, 1, 5, 0, 1);
    }

    private static long gcd(long a, long b) {
        return b == 0 ? a : gcd(b, a % b);
    }

    private static void refusedSneezes(BlownByAll x) {
        int[] noPipe = {-1, 2, LEAST, MOST};
        int[] nobody = {-1, 3, LEAST, MOST};
        int[] noBeat = {-1, 2, LEAST, MOST};
        int[] noTenths = {-1, 11, LEAST, MOST};
        for (int k = 0; k < 4; k++) {
            promise = 30;
            steadyDue(x, noPipe[k], 0, 1, -1, -1);
            steadyDue(x, noPipe[k], 0, 11, -1, -1);
            steadyDue(x, 0, noBeat[k], 11, -1, -1);
            steadyDue(x, 0, 0, noTenths[k], -2, -2);
            promise = 31;
            blameDue(x, nobody[k], 0, 1, -1, -1);
            blameDue(x, 0, noBeat[k], 11, -1, -1);
            blameDue(x, 0, 0, noTenths[k], -2, -2);
        }
        // OUTSIDE is named ahead of STATE.
        x.seat(1, 0);
        blameDue(x, 0, 0, 0, -3, -3);
        blameDue(x, 0, 0, -1, -2, -2);
    }

    private static void slots() {
        BlownByAll x = made("O12M210M121/1020");
        int[] no = {-1, 2, LEAST, MOST};
        for (int slot : no) {
            promise = 32;
            due("keep(" + slot + ")", x.keep(slot), -1);
            promise = 33;
            due("again(" + slot + ")", x.again(slot), -1);
        }
        due("again(0)", x.again(0), -3);
        promise = 32;
        String first = stateOf(x);
        due("keep(0)", x.keep(0), 2);
        promise = 33;
        due("again(1)", x.again(1), -3);
        x.seat(0, 1);
        x.phase(1, 1);
        x.grow(0);
        x.bribe(1, true);
        x.late(42);
        x.store(8);
        String second = stateOf(x);
        due("keep(1)", x.keep(1), 2);
        due("again(0)", x.again(0), 2);
        same("again(0)", x, first);
        due("again(1)", x.again(1), 2);
        same("again(1)", x, second);
        // What is kept stays as it was kept, whatever comes after it.
        x.phase(1, 0);
        x.bribe(0, true);
        due("again(1)", x.again(1), 2);
        same("again(1)", x, second);
        due("keep(0)", x.keep(0), 2);
        x.late(0);
        due("again(0)", x.again(0), 2);
        same("again(0)", x, second);
        due("organ()", x.organ(), 202);
        due("again(0)", x.again(0), -3);
        due("again(1)", x.again(1), -3);
        due("keep(1) of nobody", new BlownByAll().keep(1), 0);
    }

    private static void count() {
        promise = 34;
        BlownByAll x = made("O123M210M121/102030");
        x.bribe(0, true);
        x.bribe(1, true);
        due("count(4)", x.count(4), 2);
        x.bribe(1, false);
        x.late(7);
        x.store(6);
        int[] counts = {19, 3, 2, 3, 1, 7, 6};
        for (int what = 0; what <= 6; what++) {
            due("count(" + what + ")", x.count(what), counts[what]);
        }
        int[] no = {-1, 7, LEAST, MOST};
        for (int what : no) {
            due("count(" + what + ")", x.count(what), -2);
        }
    }

    private static void fullHouse() {
        // All is as large as it can be: nothing may be looked up behind its end.
        String folk = "M930M921M912M933M924M915";
        BlownByAll x = made("O999999" + folk + folk + "/" + "77".repeat(24));
        promise = 18;
        // A PIPE alone is asked for, with no other call ahead of it.
        due("sags(0, 9)", x.sags(0, 9), 9);
        due("sags(1, 0)", x.sags(1, 0), 5);
        due("sags(5, 23)", x.sags(5, 23), 7);
        promise = 17;
        due("stored(5, 23)", x.stored(5, 23), 0);
        promise = 16;
        due("air(5, 23)", x.air(5, 23), 2);
        promise = 15;
        due("gives(11, 23)", x.gives(11, 23), 1);
        due("gives(11, 19)", x.gives(11, 19), 0);
        promise = 19;
        // 24 BEATS of 54 less 24 AIR, and two of them breathless.
        due("total()", x.total(), 24 * 30 + 2 * 24);
        promise = 20;
        due("first()", x.first(), 0);
        promise = 21;
        due("worst()", x.worst(), 2);
        promise = 22;
        // Of TIMES 9, 19, 29, 39 there are two or three in 24 that follow: two, from 0 on.
        due("bestLate()", x.bestLate(), 0);
        promise = 23;
        due("phases(5)", x.phases(5), 24 * 7 + 2 * 2);
        promise = 24;
        due("phaseAt(5, 1)", x.phaseAt(5, 1), 0);
        promise = 25;
        due("seats()", x.seats(), -3);
        promise = 26;
        due("seatAt(11)", x.seatAt(11), -3);
        promise = 27;
        due("bribes()", x.bribes(), -9);
        promise = 28;
        due("needed(11)", x.needed(11), 22);
        promise = 29;
        due("never()", x.never(), 0);
        x.store(5);
        due("never()", x.never(), 2);
        promise = 30;
        steadyDue(x, 5, 23, 0, 0, 1);
        promise = 31;
        blameDue(x, 11, 23, 5, 1, 2);
        promise = 32;
        due("keep(1)", x.keep(1), 12);
        x.seat(11, 0);
        promise = 33;
        due("again(1)", x.again(1), 12);
        due("person(11, 2)", x.person(11, 2), 5);
    }

    public static void main(String[] args) {
        aNewObject();
        write();
        wipe();
        fault();
        organ();
        drinksSoundsPerson();
        told();
        mass();
        firstAndWorst();
        bestLate();
        phases();
        seats();
        bribes();
        needed();
        never();
        sneezes();
        slots();
        count();
        fullHouse();
        System.out.println(wrong == 0 ? "all promises hold" : wrong + " answers are not as due");
        if (wrong != 0) {
            System.exit(1);
        }
    }
}
