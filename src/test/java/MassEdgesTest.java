/** Edges of a mass: TIMES and breaths, AIR, STORES, and promises 15 to 21 (gives up to worst). */
public final class MassEdgesTest {
    private static final int[] NOT_A_PIPE_OF_TWO = {-1, 2, 6, Edges.LEAST, Edges.MOST};
    private static final int[] NOT_A_BEAT_OF_24 = {-1, 24, 25, Edges.LEAST, Edges.MOST};

    /** What is stored behind each BEAT of a PIPE. */
    private static void stored(BlownByAll x, int pipe, int... due) {
        for (int beat = 0; beat < due.length; beat++) {
            Edges.due("stored(" + pipe + ", " + beat + ") by c " + x.count(6), x.stored(pipe, beat), due[beat]);
        }
    }

    private static void sags(BlownByAll x, int pipe, int... due) {
        for (int beat = 0; beat < due.length; beat++) {
            Edges.due("sags(" + pipe + ", " + beat + ") by c " + x.count(6), x.sags(pipe, beat), due[beat]);
        }
    }

    private static void air(BlownByAll x, int pipe, int... due) {
        for (int beat = 0; beat < due.length; beat++) {
            Edges.due("air(" + pipe + ", " + beat + ")", x.air(pipe, beat), due[beat]);
        }
    }

    // ---- breaths

    /** Breaths are counted on from the first one, with no remainder of a division. */
    private static boolean breathes(int time, int lungs, int s) {
        int breath = lungs - s;
        while (breath < time) {
            breath += lungs + 1;
        }
        return breath == time;
    }

    private static void breathsOfAllLungsAndPhases() {
        for (int lungs = 1; lungs <= 9; lungs++) {
            for (int s = 0; s <= lungs; s++) {
                BlownByAll x = Edges.made("O1M" + lungs + "30/" + "10".repeat(24));
                x.phase(0, s);
                for (int late = 0; late <= 99; late += 9) {
                    x.late(late);
                    for (int beat = 0; beat < 24; beat++) {
                        String call = "gives(0, " + beat + ") of " + lungs + " by " + s + ", late " + late;
                        Edges.due(call, x.gives(0, beat), breathes(beat + late, lungs, s) ? 0 : 3);
                    }
                }
            }
        }
    }

    private static void atItsLungsItBreathesAtOnce() {
        // By PHASE l the first TIME is a breath, by PHASE 0 it is the one that ends a turn, and then the next turn.
        for (int lungs = 1; lungs <= 9; lungs++) {
            BlownByAll x = Edges.made("O1M" + lungs + "10/" + "10".repeat(24));
            Edges.due("gives(0, l - 1)", x.gives(0, lungs - 1), 1);
            Edges.due("gives(0, l)", x.gives(0, lungs), 0);
            Edges.due("gives(0, l + 1)", x.gives(0, lungs + 1), 1);
            Edges.due("gives(0, 2 l + 1)", x.gives(0, 2 * lungs + 1), 0);
            x.phase(0, lungs);
            Edges.due("gives(0, 0)", x.gives(0, 0), 0);
            Edges.due("gives(0, 1)", x.gives(0, 1), 1);
            Edges.due("gives(0, l)", x.gives(0, lungs), 1);
            Edges.due("gives(0, l + 1)", x.gives(0, lungs + 1), 0);
        }
    }

    private static void grownBreathesLater() {
        BlownByAll x = Edges.made("O1M810/" + "10".repeat(24));
        Edges.due("gives(0, 8)", x.gives(0, 8), 0);
        Edges.due("gives(0, 9)", x.gives(0, 9), 1);
        x.grow(0);
        Edges.due("gives(0, 8)", x.gives(0, 8), 1);
        Edges.due("gives(0, 9)", x.gives(0, 9), 0);
        Edges.due("gives(0, 19)", x.gives(0, 19), 0);
        x.grow(0);
        Edges.due("gives(0, 9)", x.gives(0, 9), 0);
    }

    private static void bribedAtAllTimes() {
        for (int lungs = 1; lungs <= 9; lungs += 4) {
            BlownByAll x = Edges.made("O1M" + lungs + "20/" + "10".repeat(24));
            x.bribe(0, true);
            for (int s = 0; s <= lungs; s++) {
                x.phase(0, s);
                for (int beat = 0; beat < 24; beat++) {
                    Edges.due("gives(0, " + beat + ")", x.gives(0, beat), 2);
                }
            }
            x.bribe(0, false);
            Edges.due("gives(0, 0)", x.gives(0, 0), 0);
        }
    }

    private static void beatAndLate() {
        BlownByAll x = Edges.made("O1M910/" + "10".repeat(24));
        x.late(99);
        // BEAT 0 is at TIME 99, and BEAT 23 at TIME 122.
        Edges.due("gives(0, 0)", x.gives(0, 0), 0);
        Edges.due("gives(0, 1)", x.gives(0, 1), 1);
        Edges.due("gives(0, 10)", x.gives(0, 10), 0);
        Edges.due("gives(0, 20)", x.gives(0, 20), 0);
        Edges.due("gives(0, 23)", x.gives(0, 23), 1);
        x.late(98);
        Edges.due("gives(0, 0)", x.gives(0, 0), 1);
        Edges.due("gives(0, 1)", x.gives(0, 1), 0);
        x.late(96);
        Edges.due("gives(0, 23)", x.gives(0, 23), 0);
    }

    private static void forceOneToThree() {
        for (int force = 1; force <= 3; force++) {
            BlownByAll x = Edges.made("O1M1" + force + "0/1010");
            Edges.due("gives(0, 0)", x.gives(0, 0), force);
            Edges.due("gives(0, 1)", x.gives(0, 1), 0);
        }
    }

    private static void givesUnknown() {
        BlownByAll x = Edges.made("O12" + "M910".repeat(12) + "/" + "10".repeat(24));
        Edges.due("gives(11, 23)", x.gives(11, 23), 1);
        int[] nobody = {-1, 12, 13, Edges.LEAST, Edges.MOST};
        for (int k = 0; k < nobody.length; k++) {
            Edges.due("gives(nobody)", x.gives(nobody[k], 0), Edges.UNKNOWN);
            Edges.due("gives(no beat)", x.gives(0, NOT_A_BEAT_OF_24[k]), Edges.UNKNOWN);
            Edges.due("gives(neither)", x.gives(nobody[k], NOT_A_BEAT_OF_24[k]), Edges.UNKNOWN);
        }
        Edges.due("gives(0, 0) without a hymn", Edges.made("O1M110").gives(0, 0), Edges.UNKNOWN);
        // A BEAT is not asked for by its TIME.
        BlownByAll y = Edges.made("O1M110/10");
        y.late(5);
        Edges.due("gives(0, 5)", y.gives(0, 5), Edges.UNKNOWN);
    }

    // ---- AIR

    private static void allWhoSitAtIt() {
        BlownByAll x = Edges.made("O99" + "M930".repeat(12) + "/" + "30".repeat(10));
        Edges.due("air(0, 8)", x.air(0, 8), 36);
        Edges.due("air(0, 9)", x.air(0, 9), 0);
        Edges.due("air(1, 8)", x.air(1, 8), 0);
        x.seat(11, 1);
        Edges.due("air(0, 8)", x.air(0, 8), 33);
        Edges.due("air(1, 8)", x.air(1, 8), 3);
        x.bribe(11, true);
        Edges.due("air(1, 9)", x.air(1, 9), 3);
        Edges.due("air(0, 0) of nobody", Edges.made("O1/10").air(0, 0), 0);
    }

    private static void airOfASilentPipe() {
        BlownByAll x = Edges.made("O9M120/0010");
        x.store(9);
        air(x, 0, 2, 0);
        x.phase(0, 1);
        // What is stored is no AIR.
        air(x, 0, 0, 2);
    }

    private static void unknownPipeOrBeat() {
        BlownByAll x = Edges.made("O12M910/" + "30".repeat(24));
        Edges.due("air(1, 23)", x.air(1, 23), 0);
        Edges.due("stored(1, 23)", x.stored(1, 23), 0);
        Edges.due("sags(1, 23)", x.sags(1, 23), 2);
        for (int k = 0; k < NOT_A_PIPE_OF_TWO.length; k++) {
            int pipe = NOT_A_PIPE_OF_TWO[k];
            int beat = NOT_A_BEAT_OF_24[k];
            Edges.due("air(no pipe)", x.air(pipe, 0), Edges.UNKNOWN);
            Edges.due("air(no beat)", x.air(0, beat), Edges.UNKNOWN);
            Edges.due("air(neither)", x.air(pipe, beat), Edges.UNKNOWN);
            Edges.due("stored(no pipe)", x.stored(pipe, 0), Edges.UNKNOWN);
            Edges.due("stored(no beat)", x.stored(0, beat), Edges.UNKNOWN);
            Edges.due("stored(neither)", x.stored(pipe, beat), Edges.UNKNOWN);
            Edges.due("sags(no pipe)", x.sags(pipe, 0), Edges.UNKNOWN);
            Edges.due("sags(no beat)", x.sags(0, beat), Edges.UNKNOWN);
            Edges.due("sags(neither)", x.sags(pipe, beat), Edges.UNKNOWN);
        }
    }

    private static void withoutAHymn() {
        BlownByAll x = Edges.made("O1M110");
        Edges.due("air(0, 0)", x.air(0, 0), Edges.UNKNOWN);
        Edges.due("stored(0, 0)", x.stored(0, 0), Edges.UNKNOWN);
        Edges.due("sags(0, 0)", x.sags(0, 0), Edges.UNKNOWN);
        Edges.due("total()", x.total(), 0);
        Edges.due("first()", x.first(), Edges.NONE);
        Edges.due("worst()", x.worst(), Edges.NONE);
    }

    // ---- the STORE

    private static void emptyAheadOfBeat0() {
        BlownByAll x = Edges.made("O4M930/1010");
        x.store(9);
        for (int late = 0; late <= 7; late++) {
            // Not even TIMES ahead of BEAT 0 fill it.
            x.late(late);
            sags(x, 0, 1, 1);
        }
    }

    private static void storedInARest() {
        // AIR is 3 at each BEAT; c holds so much of it at most.
        BlownByAll x = Edges.made("O9M930/00000000");
        stored(x, 0, 0, 0, 0, 0);
        x.store(1);
        stored(x, 0, 1, 1, 1, 1);
        x.store(2);
        stored(x, 0, 2, 2, 2, 2);
        x.store(3);
        stored(x, 0, 3, 3, 3, 3);
        x.store(4);
        stored(x, 0, 3, 4, 4, 4);
        x.store(8);
        stored(x, 0, 3, 6, 8, 8);
        x.store(9);
        stored(x, 0, 3, 6, 9, 9);
        sags(x, 0, 0, 0, 0, 0);
        BlownByAll y = Edges.made("O1" + "M930".repeat(12) + "/00");
        y.store(9);
        stored(y, 0, 9);
    }

    private static void restsWithoutAir() {
        // It breathes in at BEAT 1: what is stored stays as it is.
        BlownByAll x = Edges.made("O9M120/000000");
        x.store(9);
        stored(x, 0, 2, 2, 4);
        x.store(2);
        stored(x, 0, 2, 2, 2);
        BlownByAll nobody = Edges.made("O9/0000");
        nobody.store(9);
        stored(nobody, 0, 0, 0);
    }

    private static void asMuchAsItDrinksOrMore() {
        // One rest, then a note of 5 by AIR of 3: it takes 2 from the STORE.
        BlownByAll x = Edges.made("O5M930/0010");
        int[][] due = {{0, 2, 0}, {1, 1, 0}, {2, 0, 0}, {3, 0, 1}, {3, 0, 1}};
        for (int c = 0; c < due.length; c++) {
            x.store(c);
            Edges.due("stored(0, 0)", x.stored(0, 0), due[c][0]);
            Edges.due("sags(0, 1)", x.sags(0, 1), due[c][1]);
            Edges.due("stored(0, 1)", x.stored(0, 1), due[c][2]);
        }
        // Without a STORE: one less, as much, one more.
        int[] missing = {0, 0, 0, 1, 2};
        for (int drinks = 1; drinks <= 5; drinks++) {
            sags(Edges.made("O" + drinks + "M930/10"), 0, missing[drinks - 1]);
        }
    }

    private static void leftIsStored() {
        BlownByAll x = Edges.made("O1M930/101010");
        stored(x, 0, 0, 0, 0);
        x.store(1);
        stored(x, 0, 1, 1, 1);
        x.store(2);
        stored(x, 0, 2, 2, 2);
        x.store(3);
        stored(x, 0, 2, 3, 3);
        x.store(9);
        stored(x, 0, 2, 4, 6);
        BlownByAll y = Edges.made("O1" + "M930".repeat(12) + "/10");
        y.store(9);
        stored(y, 0, 9);
        y.store(8);
        stored(y, 0, 8);
    }

    private static void sagsAndIsEmpty() {
        // A rest, a note that takes all, a rest: it fills from nothing again.
        BlownByAll x = Edges.made("O9M930/0010001010");
        x.store(9);
        stored(x, 0, 3, 0, 3, 0, 0);
        sags(x, 0, 0, 3, 0, 3, 6);
    }

    private static void sagsByAllItDrinks() {
        for (int drinks = 1; drinks <= 9; drinks++) {
            sags(Edges.made("O" + drinks + "/1000"), 0, drinks, 0);
        }
    }

    private static void eachPipeItsStore() {
        BlownByAll x = Edges.made("O33M930/002010");
        x.store(9);
        stored(x, 0, 3, 6, 6);
        stored(x, 1, 0, 0, 0);
        sags(x, 1, 0, 3, 0);
        x.store(2);
        stored(x, 0, 2, 2, 2);
    }

    // ---- TOTAL, the first, the worst

    private static void leastAndMostTotal() {
        Edges.due("total() of a rest", Edges.made("O9/00").total(), 0);
        Edges.due("total()", Edges.made("O1M110/10").total(), 0);
        Edges.due("total()", Edges.made("O1/10").total(), 1);
        Edges.due("total()", Edges.made("O999999/" + "77".repeat(24)).total(), 1296);
        Edges.due("total()", Edges.made("O123456/77").total(), 21);
        Edges.due("total()", Edges.made("O123456/" + "00".repeat(23) + "04").total(), 6);
    }

    private static void firstBeatThenPipe() {
        Edges.due("first()", Edges.made("O1/10").first(), 0);
        Edges.due("first()", Edges.made("O111111/" + "00".repeat(23) + "04").first(), 235);
        Edges.due("first()", Edges.made("O111111/000477").first(), 15);
        Edges.due("first()", Edges.made("O111111/0042").first(), 12);
        Edges.due("first()", Edges.made("O111111/" + "00".repeat(9) + "0410").first(), 95);
        // A PIPE that sounds, but does not SAG, is none of them.
        Edges.due("first()", Edges.made("O11M910/30").first(), 1);
        Edges.due("first()", Edges.made("O11M110M910/10103000").first(), 21);
    }

    private static void firstOfAllPairsOfBeats() {
        for (int one = 0; one < 24; one++) {
            for (int other = 0; other < 24; other++) {
                char[] hymn = "00".repeat(24).toCharArray();
                hymn[2 * one]++;
                hymn[2 * other + 1] += 4;
                BlownByAll x = Edges.made("O111111/" + new String(hymn));
                int due = one <= other ? 10 * one : 10 * other + 5;
                Edges.due("first() by " + one + " and " + other, x.first(), due);
                Edges.due("never() by " + one + " and " + other, x.never(), due);
            }
        }
    }

    private static void nothingSags() {
        BlownByAll[] still = {new BlownByAll(), Edges.made("O9"), Edges.made("O9/00"), Edges.made("O3M930/10"),
            Edges.made("O1M110/1000")};
        for (BlownByAll x : still) {
            Edges.due("first()", x.first(), Edges.NONE);
            Edges.due("worst()", x.worst(), Edges.NONE);
            Edges.due("total()", x.total(), 0);
        }
        BlownByAll less = Edges.made("O4M930/10");
        Edges.due("first()", less.first(), 0);
        Edges.due("worst()", less.worst(), 0);
        Edges.due("total()", less.total(), 1);
    }

    private static void mostTogether() {
        Edges.due("worst()", Edges.made("O123456/77").worst(), 5);
        Edges.due("worst()", Edges.made("O654321/77").worst(), 0);
        // 3 and 3 are more than 5 at once.
        Edges.due("worst()", Edges.made("O35/1030").worst(), 0);
        Edges.due("worst()", Edges.made("O53/2030").worst(), 1);
    }

    private static void ofLikeOnesTheLeast() {
        Edges.due("worst()", Edges.made("O222222/77").worst(), 0);
        Edges.due("worst()", Edges.made("O1222/71").worst(), 1);
        Edges.due("worst()", Edges.made("O12/1030").worst(), 0);
        Edges.due("worst()", Edges.made("O21/2030").worst(), 0);
        Edges.due("worst()", Edges.made("O111111/04").worst(), 5);
    }

    private static void breathEdges() {
        Edges.edge("1 TIME", "if t and s by (l and 1) leave l; else it GIVES f", MassEdgesTest::breathsOfAllLungsAndPhases);
        Edges.edge("1 PHASE", "A PERSON has a PHASE s (0 to l;", MassEdgesTest::atItsLungsItBreathesAtOnce);
        Edges.edge("3 GROWN", "lungs of a PERSON are 1 more (9 at most)", MassEdgesTest::grownBreathesLater);
        Edges.edge("1 TIME", "Who is BRIBED GIVES at all TIMES", MassEdgesTest::bribedAtAllTimes);
        Edges.edge("1 LATE", "BEAT j is at TIME j and LATE (0 to 99;", MassEdgesTest::beatAndLate);
        Edges.edge("15 gives", "What a PERSON GIVES at a BEAT", MassEdgesTest::forceOneToThree);
        Edges.edge("15 gives", "UNKNOWN: person, beat.", MassEdgesTest::givesUnknown);
        Edges.edge("1 AIR", "what all GIVE who sit at it", MassEdgesTest::allWhoSitAtIt);
        Edges.edge("16 air", "AIR. UNKNOWN: pipe, beat.", MassEdgesTest::airOfASilentPipe);
        Edges.edge("16, 17, 18", "UNKNOWN: pipe, beat.", MassEdgesTest::unknownPipeOrBeat);
        Edges.edge("1 ORGAN", "if there is a HYMN", MassEdgesTest::withoutAHymn);
    }

    private static void storeEdges() {
        Edges.edge("1 STORE", "(empty ahead of BEAT 0)", MassEdgesTest::emptyAheadOfBeat0);
        Edges.edge("1 STORE", "A silent one stores AIR (c at most)", MassEdgesTest::storedInARest);
        Edges.edge("1 STORE", "A silent one stores AIR", MassEdgesTest::restsWithoutAir);
        Edges.edge("1 STORE", "if that is as much as it DRINKS, or more", MassEdgesTest::asMuchAsItDrinksOrMore);
        Edges.edge("1 STORE", "what is left is stored (c at most)", MassEdgesTest::leftIsStored);
        Edges.edge("1 STORE", "else it SAGS by what is missing, and the STORE is empty", MassEdgesTest::sagsAndIsEmpty);
        Edges.edge("18 sags", "By how much it SAGS", MassEdgesTest::sagsByAllItDrinks);
        Edges.edge("1 STORE", "A STORE of each PIPE", MassEdgesTest::eachPipeItsStore);
    }

    private static void totalEdges() {
        Edges.edge("19 total", "all SAGS of all PIPES at all BEATS", MassEdgesTest::leastAndMostTotal);
        Edges.edge("20 first", "The first BEAT at which something SAGS, of it the first PIPE", MassEdgesTest::firstBeatThenPipe);
        Edges.edge("20 first", "10 times the BEAT and the PIPE", MassEdgesTest::firstOfAllPairsOfBeats);
        Edges.edge("21 worst", "NONE: none SAGS", MassEdgesTest::nothingSags);
        Edges.edge("2 WORST", "with most SAGS together", MassEdgesTest::mostTogether);
        Edges.edge("2 WORST", "of like ones the least", MassEdgesTest::ofLikeOnesTheLeast);
    }

    public static void main(String[] args) {
        breathEdges();
        storeEdges();
        totalEdges();
        Edges.finish();
    }
}
