/** Boundary cases of the promises 30 to 35, each under the sentence of the document that names it. */
public final class ScoresEdgeTest {
    public static void main(String[] args) {
        marksAsked();
        marksApart();
        markOrNone();
        weightsAsked();
        totalAsked();
        eachTrait();
        oneTwoThree();
        aGreatestAndALeast();
        nineJudges();
        weightOnce();
        fractionAtFirst();
        withoutCommonDivisor();
        fractionStays();
        rankAsked();
        ranks();
        rankOfFractions();
        rankLeavesFraction();
        Due.end("ScoresEdgeTest");
    }

    private static void marks(DrillField x, int show, int trait, int... marks) {
        for (int judge = 0; judge < 9; judge++) {
            int mark = judge < marks.length ? marks[judge] : -1;
            Due.fine(x, "mark(" + show + ", " + judge + ", " + trait + ", " + mark + ")", x.mark(show, judge, trait, mark));
        }
    }

    /** A SHOW with one MARK for each TRAIT. */
    private static void three(DrillField x, int show, int first, int second, int third) {
        Due.fine(x, "mark", x.mark(show, 0, 0, first));
        Due.fine(x, "mark", x.mark(show, 0, 1, second));
        Due.fine(x, "mark", x.mark(show, 0, 2, third));
    }

    private static void total(DrillField x, int show, long upper, long lower) {
        Due.fine(x, "total(" + show + ")", x.total(show));
        Due.is("upper()", x.upper(), upper);
        Due.is("lower()", x.lower(), lower);
    }

    private static void marksAsked() {
        Due.says("MARKS: of a SHOW (0 to 5), a JUDGE (0 to 8), a TRAIT (0 to 2): 0 to 100, or none (at first).");
        DrillField x = new DrillField();
        Due.rangeYes(x, "mark of a SHOW", 0, 5, 2, show -> x.mark(show, 0, 0, 50));
        Due.rangeYes(x, "mark of a JUDGE", 0, 8, 2, judge -> x.mark(0, judge, 0, 50));
        Due.rangeYes(x, "mark of a TRAIT", 0, 2, 2, trait -> x.mark(0, 0, trait, 50));
        Due.says("A MARK, or none any more (NONE) (2; 5).");
        Due.rangeYes(x, "mark", -1, 100, 5, mark -> x.mark(0, 0, 0, mark));
        Due.fine(x, "mark(0, 0, 0, 0)", x.mark(0, 0, 0, 0));
        Due.refused(x, "mark(6, 0, 0, 101): 2 ahead of 5", x.mark(6, 0, 0, 101), 2);
        Due.refused(x, "mark(0, 9, 0, 101): 2 ahead of 5", x.mark(0, 9, 0, 101), 2);
        Due.refused(x, "mark(0, 0, 3, -2): 2 ahead of 5", x.mark(0, 0, 3, -2), 2);
    }

    /** Each MARK has a place of its own: none of the 162 is another's. */
    private static void marksApart() {
        Due.says("MARKS: of a SHOW (0 to 5), a JUDGE (0 to 8), a TRAIT (0 to 2)");
        DrillField x = new DrillField();
        for (int show = 0; show < 6; show++) {
            for (int judge = 0; judge < 9; judge++) {
                for (int trait = 0; trait < 3; trait++) {
                    x.mark(show, judge, trait, 10 * show + judge + 3 * trait);
                }
            }
        }
        // 1 to 7 of 0 to 8 are left: their mean is 4; with 3 and 6 more for the TRAITS 1 and 2.
        for (int show = 0; show < 6; show++) {
            total(x, show, 3 * (10 * show + 4) + 9, 1);
        }
        x.mark(3, 8, 2, -1);
        // 36 to 43 are left: without the least and the greatest 37 to 42, 39.5.
        total(x, 3, 2 * 34 + 3 + 39 + 1 + 68 + 3 + 39, 2);
        total(x, 2, 81, 1);
        total(x, 4, 141, 1);
    }

    private static void markOrNone() {
        Due.says("A MARK, or none any more (NONE)");
        DrillField x = new DrillField();
        three(x, 0, 10, 10, 10);
        total(x, 0, 30, 1);
        Due.fine(x, "mark(0, 0, 0, NONE)", x.mark(0, 0, 0, -1));
        Due.refused(x, "total(0)", x.total(0), 8);
        Due.fine(x, "mark(0, 0, 0, NONE) again", x.mark(0, 0, 0, -1));
        Due.fine(x, "mark(0, 0, 0, 0): a MARK of 0 is one", x.mark(0, 0, 0, 0));
        total(x, 0, 20, 1);
        Due.fine(x, "mark(0, 0, 0, 100): in the place of the other", x.mark(0, 0, 0, 100));
        total(x, 0, 120, 1);
    }

    private static void weightsAsked() {
        Due.says("WEIGHTS of TRAITS 1 to 9 (1 at first).");
        DrillField x = new DrillField();
        three(x, 0, 1, 10, 100);
        total(x, 0, 111, 1);
        Due.rangeYes(x, "weight of a TRAIT", 0, 2, 2, trait -> x.weight(trait, 1));
        for (int trait = 0; trait < 3; trait++) {
            int one = trait;
            Due.rangeYes(x, "weight of TRAIT " + trait, 1, 9, 5, weight -> x.weight(one, weight));
            Due.refused(x, "weight(" + trait + ", 0)", x.weight(trait, 0), 5);
        }
        total(x, 0, 999, 1);
        Due.refused(x, "weight(3, 10): 2 ahead of 5", x.weight(3, 10), 2);
        Due.refused(x, "weight(-1, 0): 2 ahead of 5", x.weight(-1, 0), 2);
        Due.refused(x, "weight(0, -1)", x.weight(0, -1), 5);
        total(x, 0, 999, 1);
    }

    private static void totalAsked() {
        Due.says("The FRACTION is the TOTAL of a SHOW (2; 8).");
        DrillField x = new DrillField();
        for (int show = 0; show < 6; show++) {
            three(x, show, show, 0, 0);
        }
        Due.rangeYes(x, "total of a SHOW", 0, 5, 2, x::total);
    }

    private static void eachTrait() {
        Due.says("each TRAIT must have a MARK");
        for (int missing = 0; missing < 8; missing++) {
            DrillField x = new DrillField();
            for (int trait = 0; trait < 3; trait++) {
                if ((missing >> trait & 1) == 0) {
                    x.mark(4, 8, trait, 0);
                }
            }
            if (missing == 0) {
                total(x, 4, 0, 1);
                Due.fine(x, "rank(4)", x.rank(4), 1);
            } else {
                Due.refused(x, "total(4) without " + missing, x.total(4), 8);
                Due.refused(x, "rank(4) without " + missing, x.rank(4), 8);
            }
        }
    }

    private static void oneTwoThree() {
        Due.says("without a greatest and a least one where there are three and more");
        for (int trait = 0; trait < 3; trait++) {
            DrillField x = new DrillField();
            three(x, 0, 0, 0, 0);
            marks(x, 0, trait, 100);
            total(x, 0, 100, 1);
            marks(x, 0, trait, 100, 0);
            total(x, 0, 50, 1);
            marks(x, 0, trait, 100, 0, 7);
            total(x, 0, 7, 1);
            marks(x, 0, trait, 100, 0, 7, 8);
            total(x, 0, 15, 2);
            marks(x, 0, trait, -1, -1, 100, -1, -1, -1, 0, -1, 7);
            total(x, 0, 7, 1);
        }
    }

    private static void aGreatestAndALeast() {
        Due.says("without a greatest and a least one");
        DrillField x = new DrillField();
        three(x, 0, 0, 0, 0);
        marks(x, 0, 1, 5, 5, 5);
        total(x, 0, 5, 1);
        marks(x, 0, 1, 9, 9, 1);
        total(x, 0, 9, 1);
        marks(x, 0, 1, 9, 1, 1);
        total(x, 0, 1, 1);
        marks(x, 0, 1, 9, 9, 1, 1);
        total(x, 0, 5, 1);
        marks(x, 0, 1, 0, 0, 0);
        total(x, 0, 0, 1);
        marks(x, 0, 1, 100, 100, 100);
        total(x, 0, 100, 1);
        marks(x, 0, 1, 100, 100, 0, 0, 0);
        // 100, 0, 0 are left.
        total(x, 0, 100, 3);
    }

    private static void nineJudges() {
        Due.says("a JUDGE (0 to 8)");
        DrillField x = new DrillField();
        for (int trait = 0; trait < 3; trait++) {
            marks(x, 0, trait, 100, 100, 100, 100, 100, 100, 100, 100, 100);
            x.weight(trait, 9);
        }
        total(x, 0, 2700, 1);
        for (int trait = 0; trait < 3; trait++) {
            marks(x, 0, trait, 1, 0, 0, 0, 0, 0, 0, 0, 1);
        }
        // 1/7 of each, times 9.
        total(x, 0, 27, 7);
        x.weight(0, 7);
        total(x, 0, 25, 7);
    }

    private static void weightOnce() {
        Due.says("times its WEIGHT, together");
        DrillField x = new DrillField();
        marks(x, 0, 0, 1, 2);
        marks(x, 0, 1, 0, 1, 1, 1, 0);
        marks(x, 0, 2, 0, 1, 1, 1, 0, 0, 0);
        // 3/2, 2/3, 2/5
        total(x, 0, 45 + 20 + 12, 30);
        x.weight(0, 2);
        total(x, 0, 61, 15);
        x.weight(1, 3);
        // 3, 2, 2/5
        total(x, 0, 27, 5);
    }

    private static void fractionAtFirst() {
        Due.says("the FRACTION 0 by 1");
        DrillField x = new DrillField();
        Due.is("upper()", x.upper(), 0);
        Due.is("lower()", x.lower(), 1);
        Due.refused(x, "total(0)", x.total(0), 8);
        Due.is("upper()", x.upper(), 0);
        Due.is("lower()", x.lower(), 1);
    }

    private static void withoutCommonDivisor() {
        Due.says("without a common divisor with the lower one");
        DrillField x = new DrillField();
        three(x, 0, 0, 0, 0);
        marks(x, 0, 0, 2, 2);
        total(x, 0, 2, 1);
        marks(x, 0, 0, 1, 2);
        total(x, 0, 3, 2);
        marks(x, 0, 1, 1, 2);
        total(x, 0, 3, 1);
        marks(x, 0, 2, 1, 2);
        total(x, 0, 9, 2);
        Due.says("Its lower number, above 0.");
        marks(x, 0, 0, 0, 0);
        marks(x, 0, 1, 0, 0, 0, 0, 0, 0, 0, 0, 0);
        marks(x, 0, 2, 0, 0, 0, 0);
        total(x, 0, 0, 1);
    }

    private static void fractionStays() {
        Due.says("The upper number of the FRACTION told latest with STATUS 0");
        DrillField x = new DrillField();
        three(x, 0, 1, 1, 1);
        marks(x, 0, 0, 0, 1);
        total(x, 0, 5, 2);
        Due.refused(x, "total(1)", x.total(1), 8);
        Due.refused(x, "total(6)", x.total(6), 2);
        Due.refused(x, "total(-1)", x.total(-1), 2);
        x.mark(0, 0, 0, 100);
        x.weight(1, 9);
        Due.is("upper(): the one told, not the one it would be", x.upper(), 5);
        Due.is("lower()", x.lower(), 2);
    }

    private static void rankAsked() {
        Due.says("RANK (2; 8).");
        DrillField x = new DrillField();
        Due.refused(x, "rank(0): no TOTAL", x.rank(0), 8);
        for (int show = 0; show < 6; show++) {
            three(x, show, show, 0, 0);
        }
        Due.range(x, "rank of a SHOW", 0, 5, 2, x::rank);
    }

    private static void ranks() {
        Due.says("RANK: 1 and how many SHOWS with a TOTAL have a greater one.");
        DrillField x = new DrillField();
        three(x, 3, 0, 0, 0);
        Due.fine(x, "the only one, with 0", x.rank(3), 1);
        for (int show = 0; show < 6; show++) {
            three(x, show, 10 * show, 0, 0);
        }
        for (int show = 0; show < 6; show++) {
            Due.fine(x, "rank(" + show + ") of six", x.rank(show), 6 - show);
        }
        for (int show = 0; show < 6; show++) {
            three(x, show, 33, 33, 34);
        }
        for (int show = 0; show < 6; show++) {
            Due.fine(x, "rank(" + show + ") of six that are alike", x.rank(show), 1);
        }
        three(x, 0, 34, 33, 34);
        Due.fine(x, "rank(0): greater by one", x.rank(0), 1);
        Due.fine(x, "rank(5)", x.rank(5), 2);
        x.mark(0, 0, 1, -1);
        Due.fine(x, "rank(5): that one has no TOTAL now", x.rank(5), 1);
        Due.refused(x, "rank(0)", x.rank(0), 8);
    }

    private static void rankOfFractions() {
        Due.says("have a greater one");
        DrillField x = new DrillField();
        three(x, 0, 0, 0, 0);
        three(x, 1, 0, 0, 0);
        three(x, 2, 0, 0, 0);
        marks(x, 0, 0, 0, 1);
        marks(x, 1, 0, 0, 1, 1, 0);
        marks(x, 2, 0, 0, 0, 1, 1, 1, 0, 1, 0, 0);
        // 1/2, 2/4, 3/7
        Due.fine(x, "rank(0): 1/2", x.rank(0), 1);
        Due.fine(x, "rank(1): 1/2", x.rank(1), 1);
        Due.fine(x, "rank(2): 3/7", x.rank(2), 3);
    }

    private static void rankLeavesFraction() {
        Due.says("The upper number of the FRACTION told latest with STATUS 0");
        DrillField x = new DrillField();
        three(x, 0, 1, 2, 3);
        three(x, 1, 9, 9, 9);
        total(x, 0, 6, 1);
        Due.fine(x, "rank(1)", x.rank(1), 1);
        Due.is("upper()", x.upper(), 6);
        Due.is("lower()", x.lower(), 1);
    }
}
