/** Boundary cases of the promises 7 to 10, each under the sentence of the document that names it. */
public final class FieldEdgeTest {
    private static final int ALL = (1 << 20) - 1;

    public static void main(String[] args) {
        spotsOfMarchers();
        spotsOfProps();
        faces();
        marchersAtMost();
        propsAtMost();
        propsThereAlready();
        groupsAtMost();
        groupNames();
        groupLetters();
        firstLetterHighest();
        groupSets();
        groupToldAnew();
        longs();
        longAtFirst();
        Due.end("FieldEdgeTest");
    }

    private static void spotsOfMarchers() {
        Due.says("SPOTS: east 0 to 59, north 0 to 39.");
        DrillField x = new DrillField();
        Due.range(x, "marcher, east", 0, 59, 5, east -> x.marcher(east, 7, 3));
        Due.range(x, "marcher, north", 0, 39, 5, north -> x.marcher(7, north, 3));
        Due.fine(x, "the next MARCHER's number", x.marcher(0, 0, 0), 4);
        Due.is("run", Due.runOf(x, ""), 0);
        Due.place(x, 0, 0, 0, 7, 3);
        Due.place(x, 0, 1, 59, 7, 3);
        Due.place(x, 0, 2, 7, 0, 3);
        Due.place(x, 0, 3, 7, 39, 3);
    }

    private static void spotsOfProps() {
        Due.says("SPOTS: east 0 to 59, north 0 to 39.");
        DrillField x = Due.field(0, 7, 0, 59, 7, 0, 7, 0, 0, 7, 39, 0, 30, 30, 0);
        Due.rangeYes(x, "prop, east", 0, 59, 5, east -> x.prop(east, 7));
        Due.rangeYes(x, "prop, north", 0, 39, 5, north -> x.prop(7, north));
        Due.is("run", Due.runOf(x, ""), 0);
        Due.fine(x, "told(1): just these four", x.told(1), 4);
    }

    private static void faces() {
        Due.says("FACES 0 to 7: north, north-east, east, and so on by eighths to the right");
        DrillField x = new DrillField();
        Due.range(x, "marcher, FACE", 0, 7, 5, face -> x.marcher(0, 0, face));
        Due.is("run", Due.runOf(x, ""), 0);
        Due.place(x, 0, 0, 0, 0, 0);
        Due.place(x, 0, 1, 0, 0, 7);
        Due.refused(x, "at(0, 2, 0): a refused one is none", x.at(0, 2, 0), 2);
    }

    private static void marchersAtMost() {
        Due.says("MARCHERS, at most 20, numbered as they come");
        DrillField x = new DrillField();
        for (int i = 0; i < 20; i++) {
            Due.fine(x, "marcher " + i, x.marcher(i, i, i % 8), i);
        }
        Due.refused(x, "a 21st", x.marcher(50, 30, 0), 7);
        Due.refused(x, "a 21st, on another's SPOT", x.marcher(0, 0, 0), 7);
        Due.is("run", Due.runOf(x, ""), 0);
        Due.place(x, 0, 19, 19, 19, 3);
        Due.range(x, "at of a MARCHER", 0, 19, 2, m -> x.at(0, m, 0));
    }

    private static void propsAtMost() {
        Due.says("PROPS, at most 30: SPOTS on which nobody should be.");
        DrillField x = Due.field(29, 0, 2, 30, 0, 2);
        for (int i = 0; i < 30; i++) {
            Due.fine(x, "prop " + i, x.prop(i, 0));
        }
        Due.refused(x, "a 31st", x.prop(30, 0), 7);
        Due.refused(x, "a 31st, there already: 7 ahead of 9", x.prop(29, 0), 7);
        Due.is("run", Due.runOf(x, ""), 0);
        Due.fine(x, "told(1): the 30th is there, the 31st is not", x.told(1), 1);
    }

    private static void propsThereAlready() {
        Due.says("A PROP (5; 7; 9).");
        DrillField x = Due.field(10, 10, 0);
        for (int i = 0; i < 29; i++) {
            Due.fine(x, "prop", x.prop(i, 20));
            Due.refused(x, "the same again", x.prop(i, 20), 9);
        }
        Due.fine(x, "the 30th: those refused are not counted", x.prop(20, 29));
        DrillField y = Due.field(10, 10, 0);
        Due.fine(y, "prop where a MARCHER begins", y.prop(10, 10));
        Due.fine(y, "marcher where a PROP is", y.marcher(10, 10, 0), 1);
        Due.fine(y, "east and north exchanged are another SPOT", y.prop(11, 10));
        Due.fine(y, "east and north exchanged are another SPOT", y.prop(10, 11));
    }

    private static void groupsAtMost() {
        Due.says("GROUPS, at most 8");
        DrillField x = Due.field(1, 1, 0, 2, 2, 0);
        for (int i = 1; i < 8; i++) {
            Due.fine(x, "group " + i, x.group(i + 1, 1), i);
        }
        Due.refused(x, "a 9th", x.group(9, 1), 7);
        Due.fine(x, "one of the eight told anew", x.group(8, 2), 7);
        Due.fine(x, "the first of the eight told anew", x.group(1, 2), 0);
        Due.is("run", Due.runOf(x, ""), 0);
        Due.range(x, "dressed of a GROUP", 0, 7, 2, g -> x.dressed(g, 0));
        Due.fault(x, "i:;", 3, 0);
        Due.fine(x, "all eight have a LINE", Due.tell(x, "a:;b:;c:;d:;e:;f:;g:;h:;"), 0);
        Due.fine(x, "run()", x.run(), 0);
    }

    private static void groupNames() {
        Due.says("named by WORDS of 1 to 8 letters as numbers of 5 bits a letter");
        DrillField x = Due.field(1, 1, 0);
        Due.fine(x, "one letter", x.group(Due.word("z"), 1), 1);
        Due.fine(x, "eight letters, the least", x.group(Due.word("aaaaaaaa"), 1), 2);
        Due.fine(x, "eight letters, the greatest", x.group(Due.word("zzzzzzzz"), 1), 3);
        Due.refused(x, "no letter", x.group(0, 1), 5);
        Due.refused(x, "nine letters, the least", x.group(Due.word("aaaaaaaaa"), 1), 5);
        Due.refused(x, "nine letters, the greatest", x.group(Due.word("zzzzzzzzz"), 1), 5);
        Due.refused(x, "twelve letters", x.group(Due.word("aaaaaaaaaaaa"), 1), 5);
        Due.refused(x, "one behind the greatest", x.group(Due.word("zzzzzzzz") + 1, 1), 5);
        Due.refused(x, "one ahead of the least of eight", x.group(Due.word("aaaaaaaa") - 1, 1), 5);
        Due.refused(x, "a letter and a bit above 40", x.group(1 | 1L << 40, 1), 5);
        Due.refused(x, "a letter and the highest bit", x.group(1 | Long.MIN_VALUE, 1), 5);
        Due.refused(x, "-1", x.group(-1, 1), 5);
        Due.refused(x, "the least long", x.group(Long.MIN_VALUE, 1), 5);
        Due.refused(x, "the greatest long", x.group(Long.MAX_VALUE, 1), 5);
        Due.fine(x, "the next GROUP's number", x.group(Due.word("b"), 1), 4);
        Due.fine(x, "LINES by these NAMES", Due.tell(x, "a:;z:;aaaaaaaa:;zzzzzzzz:;b:;"), 0);
    }

    private static void groupLetters() {
        Due.says("(a 1 to z 26, the first letter the highest)");
        for (int place = 0; place < 8; place++) {
            DrillField x = Due.field(1, 1, 0);
            long others = Due.word("mmmmmmmm") & ~(31L << 5 * place);
            Due.fine(x, "letter 1 at " + place, x.group(others | 1L << 5 * place, 1), 1);
            Due.fine(x, "letter 26 at " + place, x.group(others | 26L << 5 * place, 1), 2);
            if (place == 7) {
                Due.fine(x, "no eighth letter: a WORD of seven", x.group(others, 1), 3);
            } else {
                Due.refused(x, "letter 0 at " + place, x.group(others, 1), 5);
            }
            for (long letter = 27; letter < 32; letter++) {
                Due.refused(x, "letter " + letter + " at " + place, x.group(others | letter << 5 * place, 1), 5);
            }
        }
    }

    private static void firstLetterHighest() {
        Due.says("(a 1 to z 26, the first letter the highest)");
        DrillField x = Due.field(5, 5, 0);
        x.group(1 * 32 + 26, 1);
        Due.fine(x, "az", Due.tell(x, "az: go 1;"), 1);
        Due.fault(x, "za: go 1;", 3, 0);
    }

    private static void groupSets() {
        Due.says("5: a NAME that is no such number, bits of no MARCHER, the empty set");
        DrillField x = Due.field(1, 1, 0, 2, 2, 0, 3, 3, 0);
        Due.range(x, "group of a set", 1, 7, 5, set -> x.group(2, set));
        Due.refused(x, "a bit of a MARCHER and one of none", x.group(2, 8 | 1), 5);
        Due.refused(x, "the highest bit alone", x.group(2, Integer.MIN_VALUE), 5);
        Due.refused(x, "all bits", x.group(2, -1), 5);
        x.marcher(4, 4, 0);
        Due.fine(x, "the bit of one that came since", x.group(2, 8), 1);
        DrillField full = new DrillField();
        Due.refused(full, "no MARCHERS: the empty set", full.group(1, 0), 5);
        Due.refused(full, "no MARCHERS: 1", full.group(1, 1), 5);
        for (int i = 0; i < 20; i++) {
            full.marcher(i, 0, 0);
        }
        Due.range(full, "group of twenty's sets", 1, ALL, 5, set -> full.group(2, set));
        Due.refused(full, "group of a bit far above", full.group(2, 1 << 30), 5);
        Due.is("run", Due.runOf(full, "b: go 1;"), 1);
        Due.place(full, 1, 0, 0, 1, 0);
        Due.place(full, 1, 19, 19, 1, 0);
    }

    private static void groupToldAnew() {
        Due.says("A GROUP: its number; one of that NAME is told anew");
        DrillField x = Due.field(5, 5, 0, 7, 5, 0);
        Due.fine(x, "group b", x.group(2, 1), 1);
        Due.fine(x, "group a anew", x.group(1, 2), 0);
        Due.fine(x, "group c: the two are still two", x.group(3, 1), 2);
        Due.is("run", Due.runOf(x, "a: go 1;"), 1);
        Due.place(x, 1, 0, 5, 5, 0);
        Due.place(x, 1, 1, 7, 6, 0);
        Due.refused(x, "group a anew with a set that can't be", x.group(1, 4), 5);
        Due.is("run", Due.runOf(x, "a: go 1;"), 1);
        Due.place(x, 1, 1, 7, 6, 0);
    }

    private static void longs() {
        Due.says("are above LONG (1 to 50; 2 at first)");
        DrillField x = new DrillField();
        Due.rangeYes(x, "steps", 1, 50, 5, x::steps);
        Due.refused(x, "steps(0)", x.steps(0), 5);
        // Squares of 1, 2, 49, 50 and 52 in five counts.
        DrillField y = Due.field(5, 5, 0);
        Due.is("run", Due.runOf(y, "a: shift 1 0 1 shift 1 1 1 shift 7 0 1 shift 5 5 1 shift 6 4 1;"), 5);
        int[][] want = {{1, 4}, {2, 3}, {48, 3}, {49, 2}, {50, 1}};
        for (int[] w : want) {
            Due.fine(y, "steps(" + w[0] + ")", y.steps(w[0]));
            Due.fine(y, "told(2) above " + w[0], y.told(2), w[1]);
        }
        Due.refused(y, "steps(51)", y.steps(51), 5);
        Due.fine(y, "told(2): still above 50", y.told(2), 1);
        Due.refused(y, "steps(0)", y.steps(0), 5);
        Due.fine(y, "told(2): still above 50", y.told(2), 1);
    }

    private static void longAtFirst() {
        Due.says("are above LONG (1 to 50; 2 at first)");
        DrillField x = Due.field(5, 5, 1);
        Due.is("run", Due.runOf(x, "a: go 1;"), 1);
        Due.fine(x, "told(2) of a square of 2", x.told(2), 0);
        Due.is("run", Due.runOf(x, "a: shift 2 0 1;"), 1);
        Due.fine(x, "told(2) of a square of 4", x.told(2), 1);
        DrillField y = Due.field(5, 5, 1);
        Due.is("run", Due.runOf(y, "a: mark 1;"), 1);
        Due.fine(y, "told(2) of a square of 0", y.told(2), 0);
    }
}
