import java.util.function.Supplier;
import java.util.function.ToLongFunction;

/**
 * What the tests of edges share. An edge is told by words of the document, has a test of its own, and fails
 * by itself. Answers are written as numbers, so that a wrong constant of the class is found too.
 */
final class Edges {
    static final int UNKNOWN = -1, OUTSIDE = -2, STATE = -3, FULL = -4, NONE = -9;
    static final int LEAST = Integer.MIN_VALUE, MOST = Integer.MAX_VALUE;
    /** Twelve PEOPLE for an organ of six PIPES, and the longest text that is an ORGAN. */
    static final String TWELVE = "M110M121M132M213M224M235M310M421M532M613M724M935";
    static final String LONGEST = "O123456" + TWELVE + "/" + "77".repeat(24);
    private static final int CHAPTERS = 5, SHOWN_AT_AN_EDGE = 5;

    private static int tested, failed, wrongHere;

    private Edges() {
    }

    /** One test: the promise or term, the document's words, and what is to hold there. */
    static void edge(String where, String words, Runnable test) {
        tested++;
        wrongHere = 0;
        try {
            test.run();
        } catch (RuntimeException thrown) {
            wrongHere++;
            System.out.println("  thrown: " + thrown);
        }
        if (wrongHere > 0) {
            failed++;
            System.out.println("FAILED " + where + ": " + words + " (" + wrongHere + " wrong)");
        }
    }

    static void finish() {
        System.out.println(failed == 0 ? tested + " edges hold" : failed + " of " + tested + " edges do not hold");
        if (failed != 0) {
            System.exit(1);
        }
    }

    static void due(String call, long got, long want) {
        if (got != want) {
            wrong(call + " answered " + got + ", due is " + want);
        }
    }

    private static void wrong(String what) {
        wrongHere++;
        if (wrongHere <= SHOWN_AT_AN_EDGE) {
            System.out.println("  " + what);
        }
    }

    /** Bytes of a text as write takes them, the first one highest. */
    static long bytes(String text) {
        long v = 0;
        for (int i = 0; i < text.length(); i++) {
            v = v << 8 | text.charAt(i);
        }
        return v;
    }

    /** A text comes behind THE TEXT. */
    static BlownByAll add(BlownByAll x, String text) {
        for (int i = 0; i < text.length(); i += 8) {
            String some = text.substring(i, Math.min(i + 8, text.length()));
            int was = x.count(0);
            due("write of " + some, x.write(some.length(), bytes(some)), was + some.length());
        }
        return x;
    }

    static BlownByAll written(String text) {
        return add(new BlownByAll(), text);
    }

    static int faultOf(String text) {
        return written(text).fault();
    }

    static BlownByAll made(String text) {
        return remade(new BlownByAll(), text);
    }

    static BlownByAll remade(BlownByAll x, String text) {
        x.wipe();
        add(x, text);
        if (x.organ() < 100) {
            wrong("this is no organ: " + text);
        }
        return x;
    }

    /**
     * A call is refused, and changes nothing: of two that were made alike it is told to one, and then both
     * answer alike whatever they are asked, chapter by chapter (what is kept is only seen by going back to it).
     */
    static void refused(String call, Supplier<BlownByAll> recipe, ToLongFunction<BlownByAll> told, int refusal) {
        for (int chapter = 0; chapter < CHAPTERS; chapter++) {
            BlownByAll one = recipe.get();
            BlownByAll other = recipe.get();
            due(call, told.applyAsLong(one), refusal);
            String now = chapterOf(one, chapter);
            String before = chapterOf(other, chapter);
            if (!now.equals(before)) {
                wrong(call + " changed\n    " + before + "\n    to " + now);
            }
        }
    }

    private static String chapterOf(BlownByAll x, int chapter) {
        switch (chapter) {
            case 0:
                return stateOf(x) + massOf(x);
            case 1:
                return plansOf(x);
            case 2:
                return x.again(0) + ": " + stateOf(x);
            case 3:
                return x.again(1) + ": " + stateOf(x);
            default:
                return textOf(x);
        }
    }

    /** All that is told by calls that ask, and can't be worked out from the rest. */
    static String stateOf(BlownByAll x) {
        StringBuilder all = new StringBuilder();
        for (int what = 0; what <= 6; what++) {
            all.append(x.count(what)).append(' ');
        }
        for (int i = 0; i < x.count(1); i++) {
            all.append("/ ").append(x.drinks(i)).append(' ');
            for (int j = 0; j < x.count(3); j++) {
                all.append(x.sounds(i, j));
            }
        }
        for (int i = 0; i < x.count(2); i++) {
            all.append(" M");
            for (int what = 0; what <= 4; what++) {
                all.append(x.person(i, what));
            }
        }
        return all.append(" fault ").append(x.fault()).toString();
    }

    private static String massOf(BlownByAll x) {
        StringBuilder all = new StringBuilder(" mass");
        for (int j = 0; j < Math.min(x.count(3), 6); j++) {
            for (int i = 0; i < x.count(1); i++) {
                all.append(' ').append(x.air(i, j)).append(x.stored(i, j)).append(x.sags(i, j));
            }
            for (int i = 0; i < x.count(2); i++) {
                all.append(x.gives(i, j));
            }
        }
        return all.append(' ').append(x.total()).append(' ').append(x.first()).append(' ').append(x.worst()).toString();
    }

    private static String plansOf(BlownByAll x) {
        StringBuilder all = new StringBuilder("plans ");
        all.append(x.bestLate()).append(' ').append(x.bribes()).append(' ').append(x.never()).append(' ').append(x.seats());
        for (int i = 0; i < x.count(1); i++) {
            all.append(" pipe ").append(x.phases(i));
            for (int k = 0; k < 5; k++) {
                all.append(' ').append(x.phaseAt(i, k));
            }
            all.append(' ').append(x.steady(i, 0, 3, true)).append('/').append(x.steady(i, 0, 3, false));
        }
        for (int i = 0; i < x.count(2); i++) {
            all.append(" person ").append(x.seatAt(i)).append(' ').append(x.needed(i));
            all.append(' ').append(x.blame(i, 0, 3, true)).append('/').append(x.blame(i, 0, 3, false));
        }
        return all.toString();
    }

    /** THE TEXT is told by its fault and by the organ that it is. */
    private static String textOf(BlownByAll x) {
        return x.fault() + " " + x.organ() + " " + stateOf(x) + " " + x.wipe();
    }
}
