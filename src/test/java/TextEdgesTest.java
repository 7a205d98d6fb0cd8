/** Edges of THE TEXT: what may stand in it, where its FAULT is, and promises 2 to 5 (write, wipe, fault, organ). */
public final class TextEdgesTest {
    private static final int BYTES = 256;
    private static final String FIGURES = "123456789";

    /** Of all bytes just these may come behind a head; another one is the FAULT, whatever comes behind it. */
    private static void next(String head, String allowed) {
        for (int b = 0; b < BYTES; b++) {
            String text = head + (char) b;
            int fault = Edges.faultOf(text);
            if (allowed.indexOf(b) < 0) {
                Edges.due("fault() of " + head + " and byte " + b, fault, head.length());
            } else if (fault != Edges.NONE) {
                Edges.due("fault() of " + text, fault, text.length());
            }
        }
    }

    private static void whole(String text) {
        Edges.due("fault() of " + text, Edges.faultOf(text), Edges.NONE);
    }

    private static void wrongAt(String text, int place) {
        Edges.due("fault() of " + text, Edges.faultOf(text), place);
    }

    private static void open(String text) {
        wrongAt(text, text.length());
    }

    private static String pipes(int n) {
        return "O" + FIGURES.substring(0, n);
    }

    // ---- write

    private static void oneToEightBytes() {
        for (int n = 1; n <= 8; n++) {
            BlownByAll x = new BlownByAll();
            Edges.due("write(" + n + ")", x.write(n, -1L), n);
            Edges.due("count(0)", x.count(0), n);
        }
        int[] beyond = {0, 9, -1, -8, 16, 256 + 1, Edges.LEAST, Edges.MOST};
        for (int n : beyond) {
            BlownByAll x = new BlownByAll();
            Edges.due("write(" + n + ")", x.write(n, 'O'), Edges.OUTSIDE);
            Edges.due("count(0)", x.count(0), 0);
        }
    }

    private static void theLowestBytes() {
        String text = "O3M110M120";
        long[] above = {-1L, 0x7878787878787878L, 0x3131313131313131L};
        for (int n = 1; n <= 7; n++) {
            for (long more : above) {
                BlownByAll x = new BlownByAll();
                Edges.due("write(" + n + ")", x.write(n, more << 8 * n | Edges.bytes(text.substring(0, n))), n);
                Edges.add(x, text.substring(n));
                Edges.due("organ()", x.organ(), 102);
                Edges.due("drinks(0)", x.drinks(0), 3);
                Edges.due("person(1, 1)", x.person(1, 1), 2);
            }
        }
    }

    private static void theHighestFirst() {
        BlownByAll x = new BlownByAll();
        x.write(2, 'O' << 8 | '1');
        Edges.due("fault()", x.fault(), Edges.NONE);
        x.wipe();
        x.write(2, '1' << 8 | 'O');
        Edges.due("fault()", x.fault(), 0);
        x.wipe();
        x.write(8, Edges.bytes("O12M310/"));
        x.write(2, Edges.bytes("20"));
        Edges.due("organ()", x.organ(), 201);
        Edges.due("drinks(0)", x.drinks(0), 1);
        Edges.due("drinks(1)", x.drinks(1), 2);
        Edges.due("sounds(0, 0)", x.sounds(0, 0), 0);
        Edges.due("sounds(1, 0)", x.sounds(1, 0), 1);
    }

    private static void highBits() {
        // The highest bit of v belongs to the first of eight bytes, and a byte with its high bit is no figure.
        BlownByAll x = new BlownByAll();
        Edges.due("write(8, least)", x.write(8, Long.MIN_VALUE), 8);
        Edges.due("fault()", x.fault(), 0);
        x.wipe();
        x.write(8, Edges.bytes("O123456M") | 0x80L << 24);
        Edges.due("fault()", x.fault(), 4);
        x.wipe();
        x.write(8, Edges.bytes("O123456M") ^ Long.MIN_VALUE);
        Edges.due("fault()", x.fault(), 0);
    }

    private static void lengths() {
        BlownByAll x = new BlownByAll();
        for (int n = 1; n <= 104; n++) {
            Edges.due("write(1)", x.write(1, Edges.LONGEST.charAt(n - 1)), n);
        }
        Edges.due("organ()", x.organ(), 612);
        for (int n = 1; n <= 8; n++) {
            x = new BlownByAll();
            for (int at = 0; at + n <= 104; at += n) {
                Edges.due("write(" + n + ")", x.write(n, Edges.bytes(Edges.LONGEST.substring(at, at + n))), at + n);
            }
        }
    }

    private static BlownByAll long104(int length) {
        return Edges.written(Edges.LONGEST.substring(0, length));
    }

    private static void fullBeyond104() {
        for (int n = 1; n <= 8; n++) {
            for (int length = 96; length <= 104; length++) {
                BlownByAll x = long104(length);
                int due = length + n <= 104 ? length + n : Edges.FULL;
                Edges.due("write(" + n + ") behind " + length, x.write(n, 0), due);
                Edges.due("count(0)", x.count(0), length + n <= 104 ? length + n : length);
            }
        }
    }

    private static void nothingComes() {
        BlownByAll x = long104(103);
        Edges.due("write(2)", x.write(2, '7' << 8 | '7'), Edges.FULL);
        Edges.due("count(0)", x.count(0), 103);
        Edges.due("fault()", x.fault(), 103);
        Edges.due("write(1)", x.write(1, '7'), 104);
        Edges.due("write(1)", x.write(1, '7'), Edges.FULL);
        Edges.due("fault()", x.fault(), Edges.NONE);
        Edges.due("organ()", x.organ(), 612);
        x = long104(98);
        Edges.due("write(8)", x.write(8, 0), Edges.FULL);
        Edges.due("write(7)", x.write(7, 0), Edges.FULL);
        Edges.due("write(6)", x.write(6, Edges.bytes("777777")), 104);
        Edges.due("fault()", x.fault(), Edges.NONE);
    }

    private static void outsideAheadOfFull() {
        BlownByAll x = long104(104);
        Edges.due("write(9)", x.write(9, 0), Edges.OUTSIDE);
        Edges.due("write(0)", x.write(0, 0), Edges.OUTSIDE);
        Edges.due("write(MOST)", x.write(Edges.MOST, 0), Edges.OUTSIDE);
        Edges.due("write(LEAST)", x.write(Edges.LEAST, 0), Edges.OUTSIDE);
        Edges.due("write(8)", x.write(8, 0), Edges.FULL);
    }

    // ---- wipe

    private static void howLongItWas() {
        for (int length = 0; length <= 104; length++) {
            BlownByAll x = long104(length);
            Edges.due("wipe()", x.wipe(), length);
            Edges.due("wipe()", x.wipe(), 0);
            Edges.due("count(0)", x.count(0), 0);
        }
    }

    private static void wipedIsEmpty() {
        BlownByAll x = long104(104);
        x.wipe();
        Edges.due("fault()", x.fault(), 0);
        Edges.due("organ()", x.organ(), Edges.STATE);
        // What stood there is no part of what comes: a shorter text ends at its own end.
        Edges.add(x, "O12");
        Edges.due("fault()", x.fault(), Edges.NONE);
        Edges.due("organ()", x.organ(), 200);
        x.wipe();
        Edges.add(x, Edges.LONGEST);
        Edges.due("organ()", x.organ(), 612);
    }

    private static void wipeLeavesTheOrgan() {
        BlownByAll x = Edges.made("O23M210/1020");
        x.late(3);
        x.keep(1);
        x.wipe();
        Edges.due("drinks(1)", x.drinks(1), 3);
        Edges.due("count(2)", x.count(2), 1);
        Edges.due("count(3)", x.count(3), 2);
        Edges.due("count(5)", x.count(5), 3);
        Edges.due("again(1)", x.again(1), 1);
    }

    // ---- fault

    private static void beginsWithO() {
        next("", "O");
        open("");
        open("O");
    }

    private static void drinkOneToNine() {
        next("O", FIGURES);
        for (int n = 1; n <= 5; n++) {
            next(pipes(n), FIGURES + "M/");
        }
        for (int figure = 1; figure <= 9; figure++) {
            whole("O" + figure);
            whole("O12345" + figure);
        }
        wrongAt("O0", 1);
        wrongAt("O123450", 6);
    }

    private static void oneToSixPipes() {
        for (int n = 1; n <= 6; n++) {
            whole(pipes(n));
            Edges.due("organ()", Edges.written(pipes(n)).organ(), 100 * n);
        }
        wrongAt("OM110", 1);
        wrongAt("O/10", 1);
        next(pipes(6), "M/");
        wrongAt(pipes(7), 7);
        wrongAt(pipes(8), 7);
        wrongAt(pipes(7) + "M110", 7);
    }

    private static void noneToTwelvePeople() {
        for (int n = 1; n <= 6; n += 5) {
            for (int people = 0; people <= 12; people++) {
                String text = pipes(n) + "M110".repeat(people);
                whole(text);
                Edges.due("organ()", Edges.written(text).organ(), 100 * n + people);
            }
            String all = pipes(n) + "M110".repeat(12);
            next(pipes(n) + "M110".repeat(11), "M/");
            next(all, "/");
            wrongAt(all + "M", all.length());
            wrongAt(all + "M110", all.length());
            wrongAt(all + "M110/10", all.length());
        }
    }

    private static void lungsOneToNine() {
        next("O1M", FIGURES);
        next("O12M921M", FIGURES);
        wrongAt("O1M010", 3);
        whole("O1M110");
        whole("O1M910");
    }

    private static void forceOneToThree() {
        next("O1M1", "123");
        next("O12M921M9", "123");
        wrongAt("O1M900", 4);
        wrongAt("O1M940", 4);
        whole("O1M910");
        whole("O1M930");
    }

    private static void aPipeThatThereIs() {
        for (int n = 1; n <= 6; n++) {
            next(pipes(n) + "M11", "012345".substring(0, n));
            whole(pipes(n) + "M110");
            whole(pipes(n) + "M11" + (n - 1));
            wrongAt(pipes(n) + "M11" + n, n + 4);
        }
        next("O12M110M11", "01");
    }

    private static void hymnIfThereIsOne() {
        Edges.due("count(3)", Edges.made("O1").count(3), 0);
        Edges.due("count(3)", Edges.made("O1M110").count(3), 0);
        next("O1M110", "M/");
        open("O1/");
        open("O1M110/");
        wrongAt("O1//", 3);
        wrongAt("O1/M", 3);
        wrongAt("O1/10/", 5);
        wrongAt("O1/10M110", 5);
    }

    private static void oneTo24Beats() {
        for (int beats = 1; beats <= 24; beats++) {
            whole("O1/" + "10".repeat(beats));
            Edges.due("count(3)", Edges.made("O1/" + "10".repeat(beats)).count(3), beats);
        }
        next("O1/" + "10".repeat(23), "01");
        next("O1/" + "10".repeat(24), "");
        wrongAt("O1/" + "10".repeat(25), 51);
        wrongAt("O1M110/" + "00".repeat(25), 55);
        wrongAt("O123456/" + "77".repeat(25), 56);
    }

    private static void twoFiguresOfBits() {
        // Each pair of figures, of each number of PIPES: it may stand if it names no PIPE that isn't there.
        for (int n = 1; n <= 6; n++) {
            for (int low = 0; low <= 9; low++) {
                for (int high = 0; high <= 9; high++) {
                    String head = pipes(n) + "/";
                    boolean lowIs = low <= 7 && low >> Math.min(n, 3) == 0;
                    boolean highIs = high <= 7 && high >> Math.max(n - 3, 0) == 0;
                    int due = !lowIs ? head.length() : !highIs ? head.length() + 1 : Edges.NONE;
                    wrongAt(head + low + high, due);
                    wrongAt(head + "00" + low + high, due < 0 ? due : due + 2);
                }
            }
        }
        next("O123456/", "01234567");
        next("O123456/7", "01234567");
        next("O123/7", "0");
        next("O123456/771", "01234567");
    }

    private static void halfABeat() {
        open("O1/1");
        open("O1/0");
        open("O1/101");
        open("O1/" + "10".repeat(23) + "1");
        Edges.due("organ()", Edges.written("O1/101").organ(), Edges.STATE);
    }

    private static void onlyNotAtItsEnd() {
        // Each beginning of an organ is one itself, or is only not at its end.
        for (int length = 0; length <= 104; length++) {
            boolean inPipes = length >= 2 && length <= 7;
            boolean behindPeople = length >= 7 && length <= 55 && (length - 7) % 4 == 0;
            boolean behindBeats = length >= 58 && length % 2 == 0;
            int due = inPipes || behindPeople || behindBeats ? Edges.NONE : length;
            BlownByAll x = long104(length);
            Edges.due("fault() of " + length + " bytes", x.fault(), due);
            Edges.due("organ() of " + length + " bytes", x.organ() >= 100 ? Edges.NONE : length, due);
        }
    }

    private static void whateverCameBehind() {
        String[] wrong = {"X", "O0", "O1O", "O1M0", "O1M14", "O1M111", "O1M1101", "O1/2", "O1/11", "O1/10/"};
        String[] behind = {"O", "O1", "1", "0", "M110", "/10", "/", "X", "\0\0", Edges.LONGEST.substring(0, 90)};
        for (String text : wrong) {
            for (String tail : behind) {
                wrongAt(text + tail, text.length() - 1);
            }
        }
    }

    private static void lengthSetAside() {
        Edges.due("length", Edges.LONGEST.length(), 104);
        whole(Edges.LONGEST);
        // The FAULT is a byte at the last place that there is, or far ahead of it.
        wrongAt(Edges.LONGEST.substring(0, 103) + "8", 103);
        wrongAt(Edges.LONGEST.substring(0, 103) + "/", 103);
        wrongAt("O1" + "/".repeat(102), 3);
        wrongAt("X" + Edges.LONGEST.substring(1), 0);
        // More beats than there may be are wrong at the 25th, not where THE TEXT is full.
        wrongAt("O1/" + "10".repeat(50), 51);
        wrongAt("O1M110/" + "10".repeat(48) + "1", 55);
    }

    private static void faultChangesNothing() {
        BlownByAll x = Edges.made("O2M110/10");
        x.late(4);
        x.phase(0, 1);
        x.wipe();
        Edges.add(x, "O34");
        Edges.due("fault()", x.fault(), Edges.NONE);
        Edges.due("fault()", x.fault(), Edges.NONE);
        Edges.due("drinks(0)", x.drinks(0), 2);
        Edges.due("person(0, 3)", x.person(0, 3), 1);
        Edges.due("sags(0, 0)", x.sags(0, 0), 2);
        Edges.add(x, "x");
        Edges.due("fault()", x.fault(), 3);
        Edges.due("count(2)", x.count(2), 1);
        Edges.due("count(5)", x.count(5), 4);
    }

    // ---- organ

    private static void leastAndMostOrgan() {
        Edges.due("O1", Edges.written("O1").organ(), 100);
        Edges.due("O1M110", Edges.written("O1M110").organ(), 101);
        Edges.due("twelve", Edges.written("O1" + "M110".repeat(12)).organ(), 112);
        Edges.due("six", Edges.written("O123456").organ(), 600);
        Edges.due("longest", Edges.written(Edges.LONGEST).organ(), 612);
    }

    private static void stateByAFault() {
        String[] faulty = {"", "O", "O0", "X", "O1M", "O1M11", "O1/", "O1/1", "O1/2", "O1234567", "O1 ", "O1\0"};
        for (String text : faulty) {
            BlownByAll x = Edges.written(text);
            Edges.due("organ() of " + text, x.organ(), Edges.STATE);
            Edges.due("drinks(0)", x.drinks(0), 1);
            Edges.due("count(1)", x.count(1), 1);
            Edges.due("count(0)", x.count(0), text.length());
        }
    }

    private static void keptIsGone() {
        BlownByAll x = Edges.made("O1M110/10");
        x.keep(0);
        x.keep(1);
        x.write(1, 'x');
        Edges.due("organ()", x.organ(), Edges.STATE);
        Edges.due("again(0)", x.again(0), 1);
        Edges.due("again(1)", x.again(1), 1);
        Edges.remade(x, "O1M110/10");
        Edges.due("again(0)", x.again(0), Edges.STATE);
        Edges.due("again(1)", x.again(1), Edges.STATE);
        Edges.due("keep(1)", x.keep(1), 1);
        Edges.due("again(0)", x.again(0), Edges.STATE);
        Edges.due("again(1)", x.again(1), 1);
    }

    private static void theTextStays() {
        BlownByAll x = Edges.made("O12M310/1020");
        Edges.due("count(0)", x.count(0), 12);
        Edges.due("organ()", x.organ(), 201);
        Edges.due("write(2)", x.write(2, '3' << 8 | '0'), 14);
        Edges.due("count(3)", x.count(3), 2);
        Edges.due("organ()", x.organ(), 201);
        Edges.due("count(3)", x.count(3), 3);
    }

    private static void madeSmaller() {
        BlownByAll x = Edges.made(Edges.LONGEST);
        Edges.remade(x, "O2M110/10");
        Edges.due("count(1)", x.count(1), 1);
        Edges.due("count(2)", x.count(2), 1);
        Edges.due("count(3)", x.count(3), 1);
        Edges.due("drinks(1)", x.drinks(1), Edges.UNKNOWN);
        Edges.due("person(1, 0)", x.person(1, 0), Edges.UNKNOWN);
        Edges.due("sounds(0, 1)", x.sounds(0, 1), Edges.UNKNOWN);
        Edges.due("air(0, 0)", x.air(0, 0), 1);
        Edges.due("total()", x.total(), 1);
        Edges.due("worst()", x.worst(), 0);
        Edges.due("phases(0)", x.phases(0), 1);
        Edges.due("seats()", x.seats(), 1);
        Edges.due("first()", x.first(), 0);
        Edges.remade(x, "O2M110/00");
        Edges.due("total()", x.total(), 0);
        Edges.due("first()", x.first(), Edges.NONE);
        Edges.due("never()", x.never(), Edges.NONE);
        Edges.due("bribes()", x.bribes(), 0);
        Edges.remade(x, "O1");
        Edges.due("count(2)", x.count(2), 0);
        Edges.due("count(3)", x.count(3), 0);
        Edges.due("person(0, 0)", x.person(0, 0), Edges.UNKNOWN);
        Edges.due("air(0, 0)", x.air(0, 0), Edges.UNKNOWN);
        Edges.due("total()", x.total(), 0);
    }

    private static void madeLarger() {
        BlownByAll x = Edges.made("O1");
        Edges.remade(x, Edges.LONGEST);
        Edges.due("drinks(5)", x.drinks(5), 6);
        Edges.due("person(11, 0)", x.person(11, 0), 9);
        Edges.due("person(11, 1)", x.person(11, 1), 3);
        Edges.due("person(11, 2)", x.person(11, 2), 5);
        Edges.due("sounds(5, 23)", x.sounds(5, 23), 1);
        Edges.due("air(5, 23)", x.air(5, 23), 3);
    }

    private static void writeEdges() {
        Edges.edge("2 write", "n bytes (1 to 8) of v", TextEdgesTest::oneToEightBytes);
        Edges.edge("2 write", "the lowest n", TextEdgesTest::theLowestBytes);
        Edges.edge("2 write", "the highest of these first", TextEdgesTest::theHighestFirst);
        Edges.edge("1 THE TEXT", "is bytes", TextEdgesTest::highBits);
        Edges.edge("2 write", "come behind THE TEXT: how long it is", TextEdgesTest::lengths);
        Edges.edge("2 write", "FULL: it would be longer than 104", TextEdgesTest::fullBeyond104);
        Edges.edge("2 write", "(nothing comes)", TextEdgesTest::nothingComes);
        Edges.edge("2 write", "OUTSIDE; FULL", TextEdgesTest::outsideAheadOfFull);
        Edges.edge("3 wipe", "how long it was", TextEdgesTest::howLongItWas);
        Edges.edge("3 wipe", "THE TEXT is empty", TextEdgesTest::wipedIsEmpty);
        Edges.edge("3 wipe", "THE TEXT is empty", TextEdgesTest::wipeLeavesTheOrgan);
    }

    private static void faultEdges() {
        Edges.edge("1 ORGAN", "An ORGAN is a TEXT: O, then", TextEdgesTest::beginsWithO);
        Edges.edge("1 ORGAN", "what it DRINKS in a BEAT (a figure, 1 to 9)", TextEdgesTest::drinkOneToNine);
        Edges.edge("1 ORGAN", "for each PIPE (1 to 6)", TextEdgesTest::oneToSixPipes);
        Edges.edge("1 ORGAN", "then PEOPLE, none or more (12 at most)", TextEdgesTest::noneToTwelvePeople);
        Edges.edge("1 ORGAN", "lungs l (1 to 9)", TextEdgesTest::lungsOneToNine);
        Edges.edge("1 ORGAN", "force f (1 to 3)", TextEdgesTest::forceOneToThree);
        Edges.edge("1 ORGAN", "the PIPE at which they sit", TextEdgesTest::aPipeThatThereIs);
        Edges.edge("1 ORGAN", "then, if there is a HYMN, a /", TextEdgesTest::hymnIfThereIsOne);
        Edges.edge("1 ORGAN", "its BEATS (1 to 24)", TextEdgesTest::oneTo24Beats);
        Edges.edge("1 ORGAN", "two figures each (0 to 7)", TextEdgesTest::twoFiguresOfBits);
        Edges.edge("1 ORGAN", "two figures each", TextEdgesTest::halfABeat);
        Edges.edge("1 FAULT", "its length, if it is only not at its end", TextEdgesTest::onlyNotAtItsEnd);
        Edges.edge("1 FAULT", "whatever came behind it", TextEdgesTest::whateverCameBehind);
        Edges.edge("1 FAULT", "(its length set aside)", TextEdgesTest::lengthSetAside);
        Edges.edge("4 fault", "FAULT; NONE.", TextEdgesTest::faultChangesNothing);
    }

    private static void organEdges() {
        Edges.edge("5 organ", "100 times PIPES, and PEOPLE", TextEdgesTest::leastAndMostOrgan);
        Edges.edge("5 organ", "STATE: a FAULT.", TextEdgesTest::stateByAFault);
        Edges.edge("5 organ", "(what was kept is gone)", TextEdgesTest::keptIsGone);
        Edges.edge("5 organ", "THE TEXT is THE ORGAN", TextEdgesTest::theTextStays);
        Edges.edge("5 organ", "THE TEXT is THE ORGAN", TextEdgesTest::madeSmaller);
        Edges.edge("5 organ", "THE TEXT is THE ORGAN", TextEdgesTest::madeLarger);
    }

    public static void main(String[] args) {
        writeEdges();
        faultEdges();
        organEdges();
        Edges.finish();
    }
}
