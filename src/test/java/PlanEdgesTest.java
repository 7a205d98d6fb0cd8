import java.util.Arrays;

/** Edges of plans: promises 22 to 29 (bestLate up to never), and how many PEOPLE they are for. */
public final class PlanEdgesTest {
    private static final int[] NO_PIPE_OF_TWO = {-1, 2, 6, Edges.LEAST, Edges.MOST};

    private static void phasesAt(BlownByAll x, int pipe, int together, int... due) {
        Edges.due("phases(" + pipe + ")", x.phases(pipe), together);
        for (int i = 0; i < due.length; i++) {
            Edges.due("phaseAt(" + pipe + ", " + i + ")", x.phaseAt(pipe, i), due[i]);
        }
        Edges.due("phaseAt(" + pipe + ", " + due.length + ")", x.phaseAt(pipe, due.length), Edges.NONE);
    }

    private static void seatsAre(BlownByAll x, int total, int... due) {
        Edges.due("seats()", x.seats(), total);
        for (int person = 0; person < due.length; person++) {
            Edges.due("seatAt(" + person + ")", x.seatAt(person), due[person]);
        }
    }

    /** A row of rests with a note at some BEATS. */
    private static String notes(int beats, int... at) {
        char[] hymn = "00".repeat(beats).toCharArray();
        for (int beat : at) {
            hymn[2 * beat] = '1';
        }
        return "/" + new String(hymn);
    }

    private static BlownByAll withPhases(String text, int... phases) {
        BlownByAll x = Edges.made(text);
        for (int person = 0; person < phases.length; person++) {
            x.phase(person, phases[person]);
        }
        return x;
    }

    // ---- BEST LATE

    private static void lateUpTo11() {
        // They breathe in at even TIMES; 0, 3, 6, 9; 1, 4, 7, 10; 1, 5, 9: of 0 to 11 all GIVE at 11 alone.
        BlownByAll x = withPhases("O4M110M210M210M310/10", 1, 2, 1, 2);
        Edges.due("bestLate()", x.bestLate(), 11);
        x.late(11);
        Edges.due("total()", x.total(), 0);
    }

    private static void lateNot12() {
        // They breathe in at odd TIMES; 1, 4, 7, 10; 2, 5, 8, 11; 0, 5, 10; 1, 6, 11: all GIVE at 12 first.
        BlownByAll x = withPhases("O5M110M210M210M410M410/10", 0, 1, 0, 4, 3);
        x.late(12);
        Edges.due("total()", x.total(), 0);
        // One breath at least is at each of 0 to 11; just one is at 0 first.
        x.late(0);
        Edges.due("total()", x.total(), 1);
        Edges.due("bestLate()", x.bestLate(), 0);
    }

    private static void lateOfLikeOnesTheLeast() {
        Edges.due("bestLate()", Edges.made("O1/10").bestLate(), 0);
        Edges.due("bestLate()", Edges.made("O1M110/1010").bestLate(), 0);
        // It GIVES at even TIMES: 1, 3, 5 and on are alike for a note at BEAT 1.
        Edges.due("bestLate()", Edges.made("O1M110/0010").bestLate(), 1);
        Edges.due("bestLate()", withPhases("O1M110/0010", 1).bestLate(), 0);
        Edges.due("bestLate()", new BlownByAll().bestLate(), 0);
    }

    private static void lateAsToldDoesNotCount() {
        BlownByAll x = Edges.made("O1M110/0010");
        for (int k = 0; k <= 99; k += 33) {
            x.late(k);
            Edges.due("bestLate()", x.bestLate(), 1);
            Edges.due("count(5)", x.count(5), k);
        }
    }

    private static void lateByAllPipes() {
        // By LATE 0 PIPE 1 SAGS, by LATE 1 PIPE 0: what is missing in all counts, and of like ones 0 is the first.
        Edges.due("bestLate() by 2 or 1", Edges.made("O12M110M121/1020").bestLate(), 1);
        Edges.due("bestLate() by 1 or 2", Edges.made("O21M120M111/1020").bestLate(), 0);
        Edges.due("bestLate() by 1 or 1", Edges.made("O11M110M111/1020").bestLate(), 0);
        Edges.due("bestLate() by 1 and 1 or 1", Edges.made("O11M110M111/10200020").bestLate(), 1);
    }

    private static void lateWithTheStore() {
        // AIR 1 0: a rest ahead of the note fills the STORE, if it is a TIME of AIR.
        BlownByAll x = Edges.made("O1M110/0010");
        Edges.due("bestLate()", x.bestLate(), 1);
        x.store(1);
        Edges.due("bestLate()", x.bestLate(), 0);
    }

    // ---- BEST PHASES

    private static void fourAtMost() {
        String four = "O31M310M310M310M310";
        BlownByAll x = Edges.made(four + "/" + "10".repeat(24));
        phasesAt(x, 0, 0, 0, 1, 2, 3);
        phasesAt(x, 1, 0);
        BlownByAll five = Edges.made(four + "M310/10");
        Edges.due("phases(0)", five.phases(0), Edges.STATE);
        Edges.due("phaseAt(0, 0)", five.phaseAt(0, 0), Edges.STATE);
        Edges.due("phaseAt(0, 4)", five.phaseAt(0, 4), Edges.STATE);
        Edges.due("phaseAt(0, 5)", five.phaseAt(0, 5), Edges.STATE);
        Edges.due("phaseAt(0, -1)", five.phaseAt(0, -1), Edges.STATE);
        phasesAt(five, 1, 0);
        five.seat(4, 1);
        phasesAt(five, 0, 0, 0, 0, 0, 0);
        phasesAt(five, 1, 0, 0);
        five.seat(4, 0);
        Edges.due("phases(0)", five.phases(0), Edges.STATE);
    }

    private static void fourOfTwelve() {
        // However many there are in all: four at each of three PIPES.
        BlownByAll x = Edges.made("O333" + "M310M311M312".repeat(4) + "/" + "70".repeat(24));
        for (int pipe = 0; pipe < 3; pipe++) {
            phasesAt(x, pipe, 0, 0, 1, 2, 3);
        }
        x.seat(11, 0);
        Edges.due("phases(0)", x.phases(0), Edges.STATE);
        // All three that are left are to GIVE: each breath is missed, whenever it is.
        phasesAt(x, 2, 18, 0, 0, 0);
        phasesAt(x, 1, 0, 0, 1, 2, 3);
    }

    private static void nobodyAtAPipe() {
        BlownByAll x = Edges.made("O12M110/30");
        phasesAt(x, 1, 2);
        phasesAt(new BlownByAll(), 0, 0);
        phasesAt(Edges.made("O9/1010"), 0, 18);
    }

    private static void leastSagsByPhases() {
        // Notes at all but TIMES 0, 10, 20: just PHASE 9, its lungs, breathes in at the rests.
        String hymn = notes(24, 1, 2, 3, 4, 5, 6, 7, 8, 9, 11, 12, 13, 14, 15, 16, 17, 18, 19, 21, 22, 23);
        phasesAt(Edges.made("O1M910" + hymn), 0, 0, 9);
        BlownByAll grown = Edges.made("O1M810" + hymn);
        grown.grow(0);
        phasesAt(grown, 0, 0, 9);
        // Just the strong one counts, and the weak one stays at 0.
        phasesAt(Edges.made("O2M910M920" + hymn), 0, 0, 0, 9);
        phasesAt(Edges.made("O2M920M910" + hymn), 0, 0, 9, 0);
        // At all but 9 and 19 it is PHASE 0.
        hymn = notes(24, 0, 1, 2, 3, 4, 5, 6, 7, 8, 10, 11, 12, 13, 14, 15, 16, 17, 18, 20, 21, 22, 23);
        phasesAt(Edges.made("O1M910" + hymn), 0, 0, 0);
        phasesAt(Edges.made("O1M110" + notes(2, 0, 1)), 0, 1, 0);
        // It SAGS though nobody breathed in, and a later PHASE still is the better one.
        phasesAt(Edges.made("O9M110" + notes(2, 1)), 0, 8, 1);
        phasesAt(Edges.made("O9M110M110M110M110" + notes(2, 1)), 0, 5, 1, 1, 1, 1);
        phasesAt(Edges.made("O9M910M910M910M910" + notes(10, 9)), 0, 5, 1, 1, 1, 1);
    }

    private static void likePhasesTheFirst() {
        phasesAt(Edges.made("O1M910/00"), 0, 0, 0);
        phasesAt(Edges.made("O9M910M910/10"), 0, 7, 0, 0);
        // Two take turns: 0 and 1, not 1 and 0.
        phasesAt(Edges.made("O1M110M110/1010"), 0, 0, 0, 1);
        // One of the two is to GIVE at BEAT 1; by the first one's PHASE 0 it is the second.
        phasesAt(Edges.made("O1M110M110/0010"), 0, 0, 0, 1);
        // The first one counts most: 0 and 1 is ahead of 1 and 0, which is as good.
        phasesAt(Edges.made("O1M110M910/" + "10".repeat(24)), 0, 0, 0, 1);
        phasesAt(Edges.made("O1M910M110/" + "10".repeat(24)), 0, 0, 0, 1);
    }

    private static void phasesByLate() {
        // A note at TIME l, which PHASE 0 breathes in: 1 is the first that does not.
        BlownByAll x = Edges.made("O1M910/10");
        for (int late = 0; late <= 99; late++) {
            x.late(late);
            phasesAt(x, 0, 0, late % 10 == 9 ? 1 : 0);
        }
    }

    private static void phasesOfTheBribed() {
        BlownByAll x = withPhases("O1M110M110/1010", 1, 1);
        x.bribe(1, true);
        phasesAt(x, 0, 0, 0, 0);
        x = withPhases("O2M110M110/1010", 1, 1);
        x.bribe(0, true);
        phasesAt(x, 0, 1, 0, 0);
    }

    private static void phasesAreNotTold() {
        BlownByAll x = withPhases("O1M110M110/1010", 1, 1);
        phasesAt(x, 0, 0, 0, 1);
        Edges.due("person(0, 3)", x.person(0, 3), 1);
        Edges.due("person(1, 3)", x.person(1, 3), 1);
        Edges.due("total()", x.total(), 1);
    }

    private static void ithOfThoseWhoSitThere() {
        // PEOPLE 1 and 3 sit at PIPE 1.
        BlownByAll x = Edges.made("O91M930M111M930M111/20202020");
        phasesAt(x, 1, 0, 0, 1);
        int[] none = {-1, 2, 3, 4, 12, Edges.LEAST, Edges.MOST};
        for (int i : none) {
            Edges.due("phaseAt(1, " + i + ")", x.phaseAt(1, i), Edges.NONE);
        }
        x.seat(1, 0);
        phasesAt(x, 1, 2, 0);
        Edges.due("phaseAt(1, 1)", x.phaseAt(1, 1), Edges.NONE);
        Edges.due("phaseAt of nobody", Edges.made("O1").phaseAt(0, 0), Edges.NONE);
    }

    private static void onePipeAfterAnother() {
        // At PIPE 0 each breath of four is missed; one, two and three sit at the others, where PHASE 1 is best. What
        // was found for one PIPE is nothing to the next.
        BlownByAll x = Edges.made("O9123M130M120M120M120M111M112M112M113M113M113/10717171");
        for (int pipe = 1; pipe <= 3; pipe++) {
            phasesAt(x, 0, 18, 0, 0, 0, 0);
            int[] due = new int[pipe];
            Arrays.fill(due, 1);
            phasesAt(x, pipe, pipe, due);
        }
        phasesAt(x, 2, 2, 1, 1);
        phasesAt(x, 1, 1, 1);
    }

    private static void phasesUnknown() {
        BlownByAll x = Edges.made("O12M110/30");
        for (int pipe : NO_PIPE_OF_TWO) {
            Edges.due("phases(" + pipe + ")", x.phases(pipe), Edges.UNKNOWN);
            Edges.due("phaseAt(" + pipe + ", 0)", x.phaseAt(pipe, 0), Edges.UNKNOWN);
            Edges.due("phaseAt(" + pipe + ", -1)", x.phaseAt(pipe, -1), Edges.UNKNOWN);
        }
    }

    // ---- BEST SEATS

    private static void sixPeopleAtMost() {
        String six = "O321321M910M920M930M910M920M930";
        seatsAre(Edges.made(six + "/77"), 0, 2, 1, 0, 5, 4, 3);
        Edges.due("seatAt(6)", Edges.made(six + "/77").seatAt(6), Edges.UNKNOWN);
        BlownByAll seven = Edges.made(six + "M910/77");
        Edges.due("seats()", seven.seats(), Edges.STATE);
        Edges.due("seatAt(0)", seven.seatAt(0), Edges.STATE);
        Edges.due("seatAt(6)", seven.seatAt(6), Edges.STATE);
        Edges.due("seats() of twelve", Edges.made("O1" + "M110".repeat(12)).seats(), Edges.STATE);
        Edges.due("seats() of seven, no hymn", Edges.made("O1" + "M110".repeat(7)).seats(), Edges.STATE);
    }

    private static void unknownAheadOfState() {
        BlownByAll seven = Edges.made("O1" + "M110".repeat(7) + "/10");
        int[] nobody = {-1, 7, 12, Edges.LEAST, Edges.MOST};
        for (int person : nobody) {
            Edges.due("seatAt(" + person + ")", seven.seatAt(person), Edges.UNKNOWN);
        }
        Edges.due("seatAt(0) of nobody", new BlownByAll().seatAt(0), Edges.UNKNOWN);
    }

    private static void seatsOfNobody() {
        Edges.due("seats()", new BlownByAll().seats(), 0);
        Edges.due("seats()", Edges.made("O12/30").seats(), 3);
        Edges.due("seats()", Edges.made("O999999/" + "77".repeat(24)).seats(), 1296);
    }

    private static void oneSeatIsThere() {
        seatsAre(Edges.made("O3M910M920/10"), 0, 0, 0);
        seatsAre(Edges.made("O5M910M920/10"), 2, 0, 0);
    }

    private static void likeSeatsTheFirst() {
        // Nothing sounds: all at PIPE 0, wherever they sit.
        seatsAre(Edges.made("O111111M115M114M113M112M111M115/00"), 0, 0, 0, 0, 0, 0, 0);
        // One is enough for each of two PIPES: the first sits at the first one.
        seatsAre(Edges.made("O11M911M910/30"), 0, 0, 1);
        // Of three one is too much, and that one sits at the first PIPE: the first two do.
        seatsAre(Edges.made("O11M911M911M910/30"), 0, 0, 0, 1);
        // Each GIVES 1 of what is missing, wherever it sits.
        seatsAre(Edges.made("O222222M915M915/77"), 10, 0, 0);
        // PERSON 0 stays at PIPE 0 though both others go to the last PIPE then.
        seatsAre(Edges.made("O111112M910M910M910/14"), 0, 0, 5, 5);
    }

    private static void seatsByPhasesAndLate() {
        // PERSON 0 breathes in at TIMES 1, 3, and on.
        BlownByAll x = Edges.made("O11M110M910/1020");
        seatsAre(x, 0, 0, 1);
        x.phase(0, 1);
        seatsAre(x, 0, 1, 0);
        x.late(1);
        seatsAre(x, 0, 0, 1);
        x.phase(0, 0);
        seatsAre(x, 0, 1, 0);
        x.bribe(0, true);
        seatsAre(x, 0, 0, 1);
    }

    private static void seatsAreNotTold() {
        BlownByAll x = Edges.made("O13M930M911/30");
        seatsAre(x, 0, 1, 0);
        Edges.due("person(0, 2)", x.person(0, 2), 0);
        Edges.due("person(1, 2)", x.person(1, 2), 1);
        Edges.due("total()", x.total(), 2);
        // Where they sit does not count.
        x.seat(0, 1);
        x.seat(1, 1);
        seatsAre(x, 0, 1, 0);
    }

    private static void mostSags() {
        // The largest numbers there are: six PEOPLE, and 9 at each of 24 BEATS.
        BlownByAll x = Edges.made("O999999" + "M935".repeat(6) + "/" + "77".repeat(24));
        // They GIVE 3 each, but for two TIMES; they sit three at a PIPE at most.
        Edges.due("seats()", x.seats(), 1296 - 6 * 3 * 22);
        Edges.due("seatAt(0)", x.seatAt(0), 0);
        Edges.due("seatAt(3)", x.seatAt(3), 1);
        Edges.due("seatAt(5)", x.seatAt(5), 1);
    }

    // ---- BRIBES

    private static void nobodyIsToBeBribed() {
        Edges.due("bribes()", new BlownByAll().bribes(), 0);
        Edges.due("bribes()", Edges.made("O1M110").bribes(), 0);
        Edges.due("bribes()", Edges.made("O9M110/00").bribes(), 0);
        Edges.due("bribes()", Edges.made("O1M110/10").bribes(), 0);
        Edges.due("bribes()", Edges.made("O1M110/1010").bribes(), 1);
    }

    private static void itCanNotBeSo() {
        Edges.due("bribes()", Edges.made("O1/10").bribes(), Edges.NONE);
        Edges.due("bribes()", Edges.made("O3M120M110/0010").bribes(), 3);
        Edges.due("bribes()", Edges.made("O4M120M110/0010").bribes(), Edges.NONE);
        // At one PIPE of two, the last one too.
        Edges.due("bribes()", Edges.made("O11M110/1030").bribes(), Edges.NONE);
        Edges.due("bribes()", Edges.made("O11M111/1030").bribes(), Edges.NONE);
        // NONE it is, whomever another PIPE asks for.
        for (int person = 0; person < 12; person++) {
            String others = "M112".repeat(person);
            Edges.due("bribes()", Edges.made("O191" + others + "M110/1030").bribes(), Edges.NONE);
            Edges.due("bribes()", Edges.made("O191" + others + "M110/1010").bribes(), 1 << person);
        }
        BlownByAll x = Edges.made("O4M120M110/0010");
        x.store(1);
        Edges.due("bribes() by c", x.bribes(), 3);
        x.bribe(0, true);
        x.bribe(1, true);
        Edges.due("bribes() of bribed ones", x.bribes(), 0);
        x.store(0);
        Edges.due("bribes() of bribed ones", x.bribes(), Edges.NONE);
    }

    private static void theFewest() {
        // 3 are missing at BEAT 1: one strong one, though its bit is higher than those of all others together.
        Edges.due("bribes()", Edges.made("O3M110M110M110M130/0010").bribes(), 8);
        Edges.due("bribes()", Edges.made("O3M110M110M110M120/0010").bribes(), 9);
        Edges.due("bribes()", Edges.made("O3" + "M110".repeat(11) + "M130/0010").bribes(), 2048);
    }

    private static void ofAsFewTheLeastNumber() {
        Edges.due("bribes()", Edges.made("O1M110M110M110/0010").bribes(), 1);
        Edges.due("bribes()", Edges.made("O2M110M110M110/0010").bribes(), 3);
        Edges.due("bribes()", Edges.made("O2M110M120M120/0010").bribes(), 2);
        Edges.due("bribes()", Edges.made("O4M110M120M120M120/0010").bribes(), 6);
        // 1 and 3 together, by 0 and 3, or 1 and 2: as numbers 9 and 6.
        Edges.due("bribes()", Edges.made("O4M110M120M120M130/0010").bribes(), 6);
    }

    private static void besidesTheBribed() {
        BlownByAll x = Edges.made("O2M110M110M110/0010");
        x.bribe(0, true);
        Edges.due("bribes()", x.bribes(), 2);
        x.bribe(2, true);
        Edges.due("bribes()", x.bribes(), 0);
        x.bribe(0, false);
        Edges.due("bribes()", x.bribes(), 1);
        Edges.due("count(4)", x.count(4), 1);
    }

    private static void allTwelve() {
        BlownByAll x = Edges.made("O93" + "M110".repeat(9) + "M111".repeat(3) + "/0030");
        Edges.due("bribes()", x.bribes(), 4095);
        x.seat(0, 1);
        Edges.due("bribes()", x.bribes(), Edges.NONE);
        x = Edges.made("O9" + "M110".repeat(12) + "/0010");
        Edges.due("bribes() at one pipe", x.bribes(), 511);
        x = Edges.made("O111111" + "M110M111M112M113M114M115".repeat(2) + "/0077");
        Edges.due("bribes() at six pipes", x.bribes(), 63);
    }

    // ---- NEEDED

    private static void neededLeastAndMost() {
        Edges.due("needed(0) of a rest", Edges.made("O9M930/00").needed(0), 0);
        Edges.due("needed(0) without a hymn", Edges.made("O9M930").needed(0), 0);
        // All GIVE more than enough; then just enough.
        Edges.due("needed(0)", Edges.made("O1M910M910/10").needed(0), 0);
        Edges.due("needed(0)", Edges.made("O2M910M910/10").needed(0), 1);
        Edges.due("needed(1)", Edges.made("O2M910M920/10").needed(1), 1);
        Edges.due("needed(1)", Edges.made("O3M910M920/10").needed(1), 2);
        BlownByAll x = Edges.made("O9M930/" + "10".repeat(24));
        Edges.due("needed(0)", x.needed(0), 66);
        x.bribe(0, true);
        Edges.due("needed(0) bribed", x.needed(0), 72);
        // By a STORE one BEAT helps others.
        x = Edges.made("O1M120M110/101010");
        Edges.due("needed(0)", x.needed(0), 0);
        x.store(1);
        Edges.due("needed(0)", x.needed(0), 1);
        x.store(9);
        Edges.due("needed(0)", x.needed(0), 1);
    }

    private static void neededUnknown() {
        BlownByAll x = Edges.made("O1" + "M110".repeat(12) + "/10");
        Edges.due("needed(11)", x.needed(11), 0);
        int[] nobody = {-1, 12, 13, Edges.LEAST, Edges.MOST};
        for (int person : nobody) {
            Edges.due("needed(" + person + ")", x.needed(person), Edges.UNKNOWN);
        }
        Edges.due("needed(0) of nobody", new BlownByAll().needed(0), Edges.UNKNOWN);
        Edges.due("count(2)", x.count(2), 12);
        Edges.due("air(0, 0)", x.air(0, 0), 12);
    }

    // ---- NEVER

    private static void drinksMoreThanAllForce() {
        Edges.due("never()", Edges.made("O3M910M920/10").never(), Edges.NONE);
        Edges.due("never()", Edges.made("O4M910M920/10").never(), 0);
        Edges.due("never()", Edges.made("O1/10").never(), 0);
        Edges.due("never()", Edges.made("O9M930M930M930/10").never(), Edges.NONE);
        // Those who sit elsewhere don't count.
        Edges.due("never()", Edges.made("O39M910M920M931/10").never(), Edges.NONE);
        Edges.due("never()", Edges.made("O39M910M921M931/10").never(), 0);
    }

    private static void forceAndStoreTogether() {
        BlownByAll x = Edges.made("O9M930/0010");
        x.store(5);
        Edges.due("never()", x.never(), 10);
        x.store(6);
        Edges.due("never()", x.never(), Edges.NONE);
        // At BEAT 0 as well, though the STORE is empty there.
        BlownByAll y = Edges.made("O9M930/10");
        y.store(5);
        Edges.due("never()", y.never(), 0);
        y.store(6);
        Edges.due("never()", y.never(), Edges.NONE);
        BlownByAll nobody = Edges.made("O9/10");
        nobody.store(8);
        Edges.due("never()", nobody.never(), 0);
        nobody.store(9);
        Edges.due("never()", nobody.never(), Edges.NONE);
    }

    private static void breathDoesNotCount() {
        // It SAGS, but it might be played by others' breath.
        BlownByAll x = Edges.made("O2M120/0010");
        Edges.due("first()", x.first(), 10);
        Edges.due("never()", x.never(), Edges.NONE);
        x.bribe(0, true);
        Edges.due("never()", x.never(), Edges.NONE);
    }

    private static void neverFirstBeatThenPipe() {
        Edges.due("never()", Edges.made("O111111/" + "00".repeat(23) + "04").never(), 235);
        Edges.due("never()", Edges.made("O111111/" + "00".repeat(9) + "0410").never(), 95);
        Edges.due("never()", Edges.made("O111111/000477").never(), 15);
        Edges.due("never()", Edges.made("O111M910/1070").never(), 11);
        Edges.due("never()", Edges.made("O111M911/2050").never(), 10);
        Edges.due("never()", Edges.made("O9/00").never(), Edges.NONE);
        Edges.due("never()", Edges.made("O9").never(), Edges.NONE);
        Edges.due("never()", new BlownByAll().never(), Edges.NONE);
    }

    private static void lateAndPhaseEdges() {
        Edges.edge("22 bestLate", "BEST LATE: 0 to 11", PlanEdgesTest::lateUpTo11);
        Edges.edge("22 bestLate", "0 to 11, by which TOTAL is least", PlanEdgesTest::lateNot12);
        Edges.edge("2 BEST LATE", "of like ones the least", PlanEdgesTest::lateOfLikeOnesTheLeast);
        Edges.edge("22 bestLate", "BEST LATE.", PlanEdgesTest::lateAsToldDoesNotCount);
        Edges.edge("2 BEST LATE", "by which TOTAL is least", PlanEdgesTest::lateByAllPipes);
        Edges.edge("2 BEST LATE", "by which TOTAL is least", PlanEdgesTest::lateWithTheStore);
        Edges.edge("23 phases", "STATE: more than 4 sit at it.", PlanEdgesTest::fourAtMost);
        Edges.edge("2 BEST PHASES", "(4 PEOPLE at most sit at it)", PlanEdgesTest::fourOfTwelve);
        Edges.edge("23 phases", "SAGS of a PIPE together by BEST PHASES", PlanEdgesTest::nobodyAtAPipe);
        Edges.edge("2 BEST PHASES", "by which its SAGS are least together", PlanEdgesTest::leastSagsByPhases);
        Edges.edge("2 BEST PHASES", "of like ones the first (by the first PERSON that sits at it, the second ..)",
                PlanEdgesTest::likePhasesTheFirst);
        Edges.edge("2 BEST PHASES", "by which its SAGS are least together", PlanEdgesTest::phasesByLate);
        Edges.edge("2 BEST PHASES", "of like ones the first", PlanEdgesTest::phasesOfTheBribed);
        Edges.edge("23 phases", "SAGS of a PIPE together by BEST PHASES", PlanEdgesTest::phasesAreNotTold);
        Edges.edge("24 phaseAt", "NONE: there is none such", PlanEdgesTest::ithOfThoseWhoSitThere);
        Edges.edge("24 phaseAt", "by BEST PHASES", PlanEdgesTest::onePipeAfterAnother);
        Edges.edge("24 phaseAt", "UNKNOWN; STATE.", PlanEdgesTest::phasesUnknown);
    }

    private static void seatEdges() {
        Edges.edge("25 seats", "STATE: more than 6 PEOPLE.", PlanEdgesTest::sixPeopleAtMost);
        Edges.edge("26 seatAt", "UNKNOWN; STATE.", PlanEdgesTest::unknownAheadOfState);
        Edges.edge("25 seats", "TOTAL by BEST SEATS", PlanEdgesTest::seatsOfNobody);
        Edges.edge("25 seats", "TOTAL by BEST SEATS", PlanEdgesTest::oneSeatIsThere);
        Edges.edge("2 BEST SEATS", "of like ones the first (by PERSON 0, 1 ..)", PlanEdgesTest::likeSeatsTheFirst);
        Edges.edge("2 BEST SEATS", "(with PHASES, LATE as they are)", PlanEdgesTest::seatsByPhasesAndLate);
        Edges.edge("26 seatAt", "At which PIPE a PERSON sits by BEST SEATS", PlanEdgesTest::seatsAreNotTold);
        Edges.edge("2 BEST SEATS", "so that TOTAL is least", PlanEdgesTest::mostSags);
    }

    private static void otherEdges() {
        Edges.edge("27 bribes", "so that nothing SAGS", PlanEdgesTest::nobodyIsToBeBribed);
        Edges.edge("27 bribes", "NONE: it can not be so", PlanEdgesTest::itCanNotBeSo);
        Edges.edge("2 BRIBES", "the fewest PEOPLE", PlanEdgesTest::theFewest);
        Edges.edge("2 BRIBES", "of as few the least number", PlanEdgesTest::ofAsFewTheLeastNumber);
        Edges.edge("2 BRIBES", "(besides those that are BRIBED)", PlanEdgesTest::besidesTheBribed);
        Edges.edge("27 bribes", "BRIBES, as bits", PlanEdgesTest::allTwelve);
        Edges.edge("28 needed", "by how much more TOTAL is without a PERSON", PlanEdgesTest::neededLeastAndMost);
        Edges.edge("28 needed", "NEEDED. UNKNOWN.", PlanEdgesTest::neededUnknown);
        Edges.edge("29 never", "at which it DRINKS more than all force of those who sit at it",
                PlanEdgesTest::drinksMoreThanAllForce);
        Edges.edge("29 never", "and c, together", PlanEdgesTest::forceAndStoreTogether);
        Edges.edge("29 never", "all force of those who sit at it", PlanEdgesTest::breathDoesNotCount);
        Edges.edge("29 never", "told as 10 times the BEAT and the PIPE; NONE", PlanEdgesTest::neverFirstBeatThenPipe);
    }

    public static void main(String[] args) {
        lateAndPhaseEdges();
        seatEdges();
        otherEdges();
        Edges.finish();
    }
}
