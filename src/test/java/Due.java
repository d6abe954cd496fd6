/** What the tests share: a count of wrong answers, and texts for the tape. */
final class Due {
    private static int asked = 0;
    private static int wrong = 0;

    private Due() {}

    static void is(String call, long got, long want) {
        asked++;
        if (got != want) {
            wrong++;
            System.out.println(call + " answered " + got + ", due is " + want);
        }
    }

    static void yes(String call, boolean got) {
        is(call, got ? 1 : 0, 1);
    }

    /** A call that answers, with STATUS 0. */
    static void fine(DrillField x, String call, long got, long want) {
        is(call, got, want);
        is(call + ": status()", x.status(), 0);
    }

    static void fine(DrillField x, String call, boolean got) {
        fine(x, call, got ? 1 : 0, 1);
    }

    /** A call that is refused: NONE and its STATUS. */
    static void refused(DrillField x, String call, long got, int status) {
        is(call, got, DrillField.NONE);
        is(call + ": status()", x.status(), status);
    }

    static void refused(DrillField x, String call, boolean got, int status) {
        is(call, got ? 1 : 0, 0);
        is(call + ": status()", x.status(), status);
    }

    /** The number of a WORD, 5 bits a letter. */
    static long word(String letters) {
        long number = 0;
        for (char letter : letters.toCharArray()) {
            number = number * 32 + (letter - 'a' + 1);
        }
        return number;
    }

    static int fourBytes(String text, int from) {
        int four = 0;
        for (int i = from; i < from + 4; i++) {
            four = four << 8 | (i < text.length() ? text.charAt(i) & 255 : ' ');
        }
        return four;
    }

    static void feed(DrillField x, String text) {
        for (int i = 0; i < text.length(); i += 20) {
            x.feed(fourBytes(text, i), fourBytes(text, i + 4), fourBytes(text, i + 8),
                    fourBytes(text, i + 12), fourBytes(text, i + 16));
        }
    }

    /** Feeds a text and tells it: what orders() answers. */
    static int tell(DrillField x, String text) {
        feed(x, text);
        return x.orders(text.length());
    }

    /** A text that must be well, and its RUN: what run() answers. */
    static int runOf(DrillField x, String text) {
        is("orders of " + text + " is refused", tell(x, text) < 0 ? x.fault(0) : 0, 0);
        return x.run();
    }

    static void end(String test) {
        System.out.println(test + ": " + asked + " answers asked, " + wrong + " not as due");
        if (wrong != 0) {
            System.exit(1);
        }
    }
}
