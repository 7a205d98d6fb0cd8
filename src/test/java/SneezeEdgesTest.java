import java.math.BigInteger;

/** Edges of chances: FRACTIONS, and promises 30 and 31 (steady, blame). */
public final class SneezeEdgesTest {
    private static final int[] NOT_TENTHS = {-1, 11, 12, Edges.LEAST, Edges.MOST};

    private static void steady(BlownByAll x, int pipe, int beat, int tenths, long above, long below) {
        String call = "steady(" + pipe + ", " + beat + ", " + tenths + ", ";
        Edges.due(call + "true)", x.steady(pipe, beat, tenths, true), above);
        Edges.due(call + "false)", x.steady(pipe, beat, tenths, false), below);
    }

    private static void blame(BlownByAll x, int person, int beat, int tenths, long above, long below) {
        String call = "blame(" + person + ", " + beat + ", " + tenths + ", ";
        Edges.due(call + "true)", x.blame(person, beat, tenths, true), above);
        Edges.due(call + "false)", x.blame(person, beat, tenths, false), below);
    }

    /** A fraction in least terms by the library, not by steps of our own. */
    private static long[] least(long above, long below) {
        long common = BigInteger.valueOf(above).gcd(BigInteger.valueOf(below)).longValueExact();
        return new long[] {above / common, below / common};
    }

    // ---- FRACTIONS

    private static void noneAndOne() {
        BlownByAll x = Edges.made("O1M910/10");
        steady(x, 0, 0, 10, 0, 1);
        steady(x, 0, 0, 0, 1, 1);
        BlownByAll nobody = Edges.made("O1/10");
        for (int tenths = 0; tenths <= 10; tenths++) {
            steady(nobody, 0, 0, tenths, 0, 1);
        }
        // It breathes in, and can't have sneezed.
        blame(Edges.made("O1M110/1010"), 0, 1, 5, 0, 1);
        blame(x, 0, 0, 10, 1, 1);
    }

    private static void inLeastTerms() {
        BlownByAll one = Edges.made("O1M910/10");
        BlownByAll two = Edges.made("O2M910M910/10");
        for (int tenths = 0; tenths <= 10; tenths++) {
            long[] due = least(10 - tenths, 10);
            steady(one, 0, 0, tenths, due[0], due[1]);
            due = least((10 - tenths) * (10 - tenths), 100);
            steady(two, 0, 0, tenths, due[0], due[1]);
        }
    }

    private static void twelveGivers() {
        // Nine of twelve are to GIVE: the numbers below go up to 10 to the 12th.
        BlownByAll x = Edges.made("O9" + "M910".repeat(12) + "/10");
        long[] choose = {1, 12, 66, 220};
        for (int tenths = 0; tenths <= 10; tenths++) {
            long enough = 0;
            for (int sneezers = 0; sneezers <= 3; sneezers++) {
                enough += choose[sneezers] * power(tenths, sneezers) * power(10 - tenths, 12 - sneezers);
            }
            long[] due = least(enough, power(10, 12));
            steady(x, 0, 0, tenths, due[0], due[1]);
            // Less: four sneeze or more; with one of them three or more of the other eleven.
            long less = power(10, 12) - enough;
            long others = power(10, 11);
            long[] ofEleven = {1, 11, 55};
            for (int sneezers = 0; sneezers <= 2; sneezers++) {
                others -= ofEleven[sneezers] * power(tenths, sneezers) * power(10 - tenths, 11 - sneezers);
            }
            if (less == 0) {
                blame(x, 11, 0, tenths, Edges.STATE, Edges.STATE);
            } else {
                due = least(tenths * others, less);
                blame(x, 11, 0, tenths, due[0], due[1]);
                blame(x, 0, 0, tenths, due[0], due[1]);
            }
        }
    }

    private static long power(long base, int times) {
        long all = 1;
        for (int i = 0; i < times; i++) {
            all *= base;
        }
        return all;
    }

    private static void refusalsLikewise() {
        BlownByAll x = Edges.made("O1M910/10");
        steady(x, 1, 0, 5, Edges.UNKNOWN, Edges.UNKNOWN);
        steady(x, 0, 0, 11, Edges.OUTSIDE, Edges.OUTSIDE);
        blame(x, 1, 0, 5, Edges.UNKNOWN, Edges.UNKNOWN);
        blame(x, 0, 0, 11, Edges.OUTSIDE, Edges.OUTSIDE);
        blame(x, 0, 0, 0, Edges.STATE, Edges.STATE);
    }

    // ---- SNEEZES

    private static void tenthsNoneToTen() {
        BlownByAll x = Edges.made("O1M910/10");
        steady(x, 0, 0, 0, 1, 1);
        steady(x, 0, 0, 1, 9, 10);
        steady(x, 0, 0, 9, 1, 10);
        steady(x, 0, 0, 10, 0, 1);
        blame(x, 0, 0, 1, 1, 1);
        blame(x, 0, 0, 10, 1, 1);
        for (int tenths : NOT_TENTHS) {
            steady(x, 0, 0, tenths, Edges.OUTSIDE, Edges.OUTSIDE);
            blame(x, 0, 0, tenths, Edges.OUTSIDE, Edges.OUTSIDE);
        }
    }

    private static void storesSetAside() {
        BlownByAll x = Edges.made("O2M110/0010");
        x.store(9);
        // A STORE of 1 does not help at BEAT 1, nor what is stored at BEAT 0.
        steady(x, 0, 0, 0, 0, 1);
        steady(x, 0, 1, 0, 0, 1);
        x = Edges.made("O1M110/0010");
        x.store(9);
        Edges.due("sags(0, 1)", x.sags(0, 1), 0);
        steady(x, 0, 1, 0, 0, 1);
        blame(x, 0, 1, 0, 0, 1);
    }

    private static void whoWouldGive() {
        // The second breathes in at BEAT 1: it neither GIVES nor sneezes; BRIBED it does.
        BlownByAll x = Edges.made("O2M910M110/1010");
        steady(x, 0, 0, 5, 1, 4);
        steady(x, 0, 1, 5, 0, 1);
        blame(x, 1, 1, 5, 0, 1);
        blame(x, 0, 1, 5, 1, 2);
        x.bribe(1, true);
        steady(x, 0, 1, 5, 1, 4);
        blame(x, 1, 1, 5, 2, 3);
        x.bribe(1, false);
        x.phase(1, 1);
        steady(x, 0, 0, 5, 0, 1);
        steady(x, 0, 1, 5, 1, 4);
        x.late(99);
        // TIMES 99 and 100: the first one breathes in at 99, the second at 100.
        steady(x, 0, 0, 0, 0, 1);
        blame(x, 0, 0, 5, 0, 1);
        blame(x, 1, 0, 5, 1, 2);
        blame(x, 0, 1, 5, 1, 2);
        blame(x, 1, 1, 5, 0, 1);
    }

    // ---- STEADY

    private static void asMuchAsItDrinks() {
        // Three GIVE 1, 2, 3: all their sums, each by one case of eight but 3, which is by two.
        long[] enough = {7, 6, 5, 3, 2, 1, 0, 0, 0};
        for (int drinks = 1; drinks <= 9; drinks++) {
            BlownByAll x = Edges.made("O" + drinks + "M910M920M930/10");
            long[] due = least(enough[drinks - 1], 8);
            steady(x, 0, 0, 5, due[0], due[1]);
        }
        steady(Edges.made("O3M930/10"), 0, 0, 0, 1, 1);
        steady(Edges.made("O4M930/10"), 0, 0, 0, 0, 1);
    }

    private static void steadyAtASilentBeat() {
        BlownByAll x = Edges.made("O1M910/0010");
        steady(x, 0, 0, 3, 7, 10);
        steady(x, 0, 1, 3, 7, 10);
    }

    private static void steadyByThoseWhoSitThere() {
        BlownByAll x = Edges.made("O12M910M921M921/30");
        steady(x, 0, 0, 5, 1, 2);
        steady(x, 1, 0, 5, 3, 4);
        x.seat(1, 0);
        steady(x, 0, 0, 5, 3, 4);
        steady(x, 1, 0, 5, 1, 2);
    }

    private static void steadyUnknown() {
        BlownByAll x = Edges.made("O12M910/" + "30".repeat(24));
        steady(x, 1, 23, 0, 0, 1);
        int[] noPipe = {-1, 2, 6, Edges.LEAST, Edges.MOST};
        int[] noBeat = {-1, 24, 25, Edges.LEAST, Edges.MOST};
        for (int k = 0; k < noPipe.length; k++) {
            steady(x, noPipe[k], 0, 1, Edges.UNKNOWN, Edges.UNKNOWN);
            steady(x, 0, noBeat[k], 1, Edges.UNKNOWN, Edges.UNKNOWN);
            steady(x, noPipe[k], noBeat[k], 1, Edges.UNKNOWN, Edges.UNKNOWN);
            // UNKNOWN is named ahead of OUTSIDE.
            steady(x, noPipe[k], 0, NOT_TENTHS[k], Edges.UNKNOWN, Edges.UNKNOWN);
            steady(x, 0, noBeat[k], NOT_TENTHS[k], Edges.UNKNOWN, Edges.UNKNOWN);
        }
        steady(Edges.made("O1M110"), 0, 0, 1, Edges.UNKNOWN, Edges.UNKNOWN);
    }

    // ---- BLAME

    private static void ifThePipeGetsLess() {
        // 2 of 1, 1, 1: less if two or three sneezed, by 3 and 1 cases of eight; PERSON 0 did in 2 and 1 of them.
        BlownByAll x = Edges.made("O2M910M910M910/10");
        for (int person = 0; person < 3; person++) {
            blame(x, person, 0, 5, 3, 4);
        }
        // 3 of 1, 2: any sneeze is enough: 3 cases of four, each did in two of them.
        x = Edges.made("O3M910M920/10");
        blame(x, 0, 0, 5, 2, 3);
        blame(x, 1, 0, 5, 2, 3);
        // 2 of 1, 2: the second did for certain, the first by its chance.
        x = Edges.made("O2M910M920/10");
        blame(x, 0, 0, 3, 3, 10);
        blame(x, 1, 0, 3, 1, 1);
        // 4 of 1, 2: it gets less anyway.
        x = Edges.made("O4M910M920/10");
        blame(x, 0, 0, 3, 3, 10);
        blame(x, 1, 0, 3, 3, 10);
    }

    private static void itCanNotBeThatItGetsLess() {
        BlownByAll enough = Edges.made("O3M910M920/10");
        blame(enough, 0, 0, 0, Edges.STATE, Edges.STATE);
        blame(enough, 1, 0, 0, Edges.STATE, Edges.STATE);
        blame(enough, 0, 0, 1, 10, 19);
        // One less than it DRINKS: it gets less without a sneeze.
        BlownByAll less = Edges.made("O4M910M920/10");
        blame(less, 0, 0, 0, 0, 1);
        blame(less, 1, 0, 0, 0, 1);
        // Of one that breathes in, by AIR of others.
        BlownByAll breath = Edges.made("O1M110M910/1010");
        blame(breath, 0, 1, 0, Edges.STATE, Edges.STATE);
        blame(breath, 0, 1, 1, 0, 1);
        breath = Edges.made("O2M110M910/1010");
        blame(breath, 0, 1, 0, 0, 1);
        // A silent PIPE gets less as well.
        blame(Edges.made("O1M910/00"), 0, 0, 5, 1, 1);
        blame(Edges.made("O1M910/00"), 0, 0, 0, Edges.STATE, Edges.STATE);
    }

    private static void blameOfOneThatBreathesIn() {
        // It can't have sneezed, however many others do: at x 10 all of them, and the PIPE still gets less.
        BlownByAll x = Edges.made("O1M110M910/1010");
        BlownByAll alone = Edges.made("O1M110/1010");
        for (int tenths = 1; tenths <= 10; tenths++) {
            blame(x, 0, 1, tenths, 0, 1);
            blame(x, 1, 1, tenths, 1, 1);
            blame(alone, 0, 1, tenths, 0, 1);
        }
        blame(x, 0, 1, 0, Edges.STATE, Edges.STATE);
        blame(alone, 0, 1, 0, 0, 1);
    }

    private static void blameByItsOwnPipe() {
        BlownByAll x = Edges.made("O13M910M931M911/30");
        blame(x, 0, 0, 5, 1, 1);
        blame(x, 1, 0, 5, 1, 1);
        blame(x, 2, 0, 5, 1, 2);
        x.seat(2, 0);
        blame(x, 0, 0, 5, 1, 1);
        blame(x, 2, 0, 5, 1, 1);
    }

    private static void blameUnknown() {
        BlownByAll x = Edges.made("O1" + "M910".repeat(12) + "/" + "10".repeat(24));
        blame(x, 11, 23, 10, 1, 1);
        int[] nobody = {-1, 12, 13, Edges.LEAST, Edges.MOST};
        int[] noBeat = {-1, 24, 25, Edges.LEAST, Edges.MOST};
        for (int k = 0; k < nobody.length; k++) {
            blame(x, nobody[k], 0, 1, Edges.UNKNOWN, Edges.UNKNOWN);
            blame(x, 0, noBeat[k], 1, Edges.UNKNOWN, Edges.UNKNOWN);
            blame(x, nobody[k], noBeat[k], 1, Edges.UNKNOWN, Edges.UNKNOWN);
            // UNKNOWN is named ahead of OUTSIDE and of STATE, OUTSIDE ahead of STATE.
            blame(x, nobody[k], 0, NOT_TENTHS[k], Edges.UNKNOWN, Edges.UNKNOWN);
            blame(x, 0, noBeat[k], NOT_TENTHS[k], Edges.UNKNOWN, Edges.UNKNOWN);
            blame(x, 0, noBeat[k], 0, Edges.UNKNOWN, Edges.UNKNOWN);
            blame(x, 0, 0, NOT_TENTHS[k], Edges.OUTSIDE, Edges.OUTSIDE);
        }
        blame(x, 0, 0, 0, Edges.STATE, Edges.STATE);
        blame(Edges.made("O1M110"), 0, 0, 1, Edges.UNKNOWN, Edges.UNKNOWN);
        blame(Edges.made("O1/10"), 0, 0, 1, Edges.UNKNOWN, Edges.UNKNOWN);
    }

    public static void main(String[] args) {
        Edges.edge("FRACTIONS", "below (1 and more)", SneezeEdgesTest::noneAndOne);
        Edges.edge("FRACTIONS", "in least terms", SneezeEdgesTest::inLeastTerms);
        Edges.edge("FRACTIONS", "in least terms", SneezeEdgesTest::twelveGivers);
        Edges.edge("FRACTIONS", "refusals of them are told likewise", SneezeEdgesTest::refusalsLikewise);
        Edges.edge("3 SNEEZES", "by x tenths (0 to 10)", SneezeEdgesTest::tenthsNoneToTen);
        Edges.edge("3 SNEEZES", "(STORES set aside)", SneezeEdgesTest::storesSetAside);
        Edges.edge("3 SNEEZES", "each that would GIVE sneezes", SneezeEdgesTest::whoWouldGive);
        Edges.edge("3 STEADY", "the chance that a PIPE gets as much as it DRINKS", SneezeEdgesTest::asMuchAsItDrinks);
        Edges.edge("30 steady", "STEADY.", SneezeEdgesTest::steadyAtASilentBeat);
        Edges.edge("30 steady", "STEADY.", SneezeEdgesTest::steadyByThoseWhoSitThere);
        Edges.edge("30 steady", "UNKNOWN: pipe, beat; OUTSIDE: x.", SneezeEdgesTest::steadyUnknown);
        Edges.edge("3 BLAME", "the chance that a PERSON sneezed, if the PIPE at which it sits gets less",
                SneezeEdgesTest::ifThePipeGetsLess);
        Edges.edge("31 blame", "STATE: it can not be that its PIPE gets less.", SneezeEdgesTest::itCanNotBeThatItGetsLess);
        Edges.edge("3 BLAME", "the chance that a PERSON sneezed", SneezeEdgesTest::blameOfOneThatBreathesIn);
        Edges.edge("3 BLAME", "the PIPE at which it sits", SneezeEdgesTest::blameByItsOwnPipe);
        Edges.edge("31 blame", "UNKNOWN: person, beat; OUTSIDE: x; STATE", SneezeEdgesTest::blameUnknown);
        Edges.finish();
    }
}
