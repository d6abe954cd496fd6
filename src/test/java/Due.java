import java.util.function.IntPredicate;
import java.util.function.IntToLongFunction;

/** What the tests share: a count of wrong answers, fields to begin with, and texts for the tape. */
final class Due {
    private static int asked = 0;
    private static int wrong = 0;
    private static String sentence = "";

    private Due() {}

    /** The sentence of the document by which the answers asked next are due. */
    static void says(String words) {
        sentence = "\"" + words + "\": ";
    }

    static void is(String call, long got, long want) {
        asked++;
        if (got != want) {
            wrong++;
            System.out.println(sentence + call + " answered " + got + ", due is " + want);
        }
    }

    static void yes(String call, boolean got) {
        is(call, got ? 1 : 0, 1);
    }

    /** A call that answers, with STATUS 0. */
    static void fine(DrillField x, String call, long got, long want) {
        is(call, got, want);
        is(call + ": status()", x.status(), 0);
    }

    static void fine(DrillField x, String call, boolean got) {
        fine(x, call, got ? 1 : 0, 1);
    }

    /** A call that is refused: NONE and its STATUS. */
    static void refused(DrillField x, String call, long got, int status) {
        is(call, got, DrillField.NONE);
        is(call + ": status()", x.status(), status);
    }

    static void refused(DrillField x, String call, boolean got, int status) {
        is(call, got ? 1 : 0, 0);
        is(call + ": status()", x.status(), status);
    }

    /** A number that may be least to most: both ends are answered, what lies beside them is not. */
    static void range(DrillField x, String call, int least, int most, int status, IntToLongFunction ask) {
        for (int value : new int[] {least, most}) {
            long got = ask.applyAsLong(value);
            is(call + " of " + value + ": status()", x.status(), 0);
            yes(call + " of " + value + " answered " + got, got != DrillField.NONE);
        }
        for (int value : new int[] {least - 1, most + 1, Integer.MIN_VALUE, Integer.MAX_VALUE}) {
            refused(x, call + " of " + value, ask.applyAsLong(value), status);
        }
    }

    /** The same for a call that answers true or false. */
    static void rangeYes(DrillField x, String call, int least, int most, int status, IntPredicate ask) {
        for (int value : new int[] {least, most}) {
            fine(x, call + " of " + value, ask.test(value));
        }
        for (int value : new int[] {least - 1, most + 1, Integer.MIN_VALUE, Integer.MAX_VALUE}) {
            refused(x, call + " of " + value, ask.test(value), status);
        }
    }

    /** MARCHERS by their east, north, FACE, and GROUP a of them all. */
    static DrillField field(int... places) {
        DrillField x = new DrillField();
        for (int i = 0; i + 2 < places.length; i += 3) {
            x.marcher(places[i], places[i + 1], places[i + 2]);
        }
        x.group(1, (1 << places.length / 3) - 1);
        return x;
    }

    static void place(DrillField x, int count, int marcher, int east, int north, int face) {
        String at = "at(" + count + ", " + marcher + ", ";
        fine(x, at + "0)", x.at(count, marcher, 0), east);
        fine(x, at + "1)", x.at(count, marcher, 1), north);
        fine(x, at + "2)", x.at(count, marcher, 2), face);
    }

    /** A TRAY of just these numbers. */
    static void lay(DrillField x, int tray, int sort, long... numbers) {
        fine(x, "tray(" + tray + ", " + sort + ", " + numbers.length + ")", x.tray(tray, sort, numbers.length));
        for (int i = 0; i < numbers.length; i++) {
            fine(x, "write(" + tray + ", " + i + ", " + numbers[i] + ")", x.write(tray, i, numbers[i]));
        }
    }

    /** The number of a WORD, 5 bits a letter. */
    static long word(String letters) {
        long number = 0;
        for (char letter : letters.toCharArray()) {
            number = number * 32 + (letter - 'a' + 1);
        }
        return number;
    }

    static int fourBytes(String text, int from) {
        int four = 0;
        for (int i = from; i < from + 4; i++) {
            four = four << 8 | (i < text.length() ? text.charAt(i) & 255 : ' ');
        }
        return four;
    }

    static void feed(DrillField x, String text) {
        for (int i = 0; i < text.length(); i += 20) {
            x.feed(fourBytes(text, i), fourBytes(text, i + 4), fourBytes(text, i + 8),
                    fourBytes(text, i + 12), fourBytes(text, i + 16));
        }
    }

    /** Feeds a text and tells it: what orders() answers. */
    static int tell(DrillField x, String text) {
        feed(x, text);
        return x.orders(text.length());
    }

    /** A text that must be well, and its RUN: what run() answers. */
    static int runOf(DrillField x, String text) {
        is("orders of " + text + " is refused", tell(x, text) < 0 ? x.fault(0) : 0, 0);
        return x.run();
    }

    /** A text that is refused with a FAULT of a kind at a place. */
    static void fault(DrillField x, String text, int kind, int place) {
        refused(x, "orders of " + text, tell(x, text), 10);
        is("fault(0) of " + text, x.fault(0), kind);
        is("fault(1) of " + text, x.fault(1), place);
    }

    /** A text without a FAULT, and the ERROR of its run() with its place (0, NONE without one). */
    static void error(DrillField x, String text, int kind, int place) {
        is("orders of " + text + " is refused", tell(x, text) < 0 ? x.fault(0) : 0, 0);
        int last = x.run();
        is("run() of " + text + ": is there a RUN", last == DrillField.NONE ? 0 : 1, kind == 0 ? 1 : 0);
        is("run() of " + text + ": status()", x.status(), kind == 0 ? 0 : 10);
        is("error(0) of " + text, x.error(0), kind);
        is("error(1) of " + text, x.error(1), place);
    }

    static void end(String test) {
        System.out.println(test + ": " + asked + " answers asked, " + wrong + " not as due");
        if (wrong != 0) {
            System.exit(1);
        }
    }
}
