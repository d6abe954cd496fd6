/** Promises 30 to 35: mark, weight, total, upper, lower, rank. */
public final class ScoresTest {
    public static void main(String[] args) {
        statuses();
        totals();
        fraction();
        ranks();
        Due.end("ScoresTest");
    }

    private static void marks(DrillField x, int show, int trait, int... marks) {
        for (int judge = 0; judge < marks.length; judge++) {
            Due.fine(x, "mark(" + show + ", " + judge + ", " + trait + ", " + marks[judge] + ")",
                    x.mark(show, judge, trait, marks[judge]));
        }
    }

    private static void total(DrillField x, int show, long upper, long lower) {
        Due.fine(x, "total(" + show + ")", x.total(show));
        Due.is("upper()", x.upper(), upper);
        Due.is("lower()", x.lower(), lower);
    }

    private static void statuses() {
        DrillField x = new DrillField();
        int[][] none = {{-1, 0, 0}, {6, 0, 0}, {0, -1, 0}, {0, 9, 0}, {0, 0, -1}, {0, 0, 3}};
        for (int[] n : none) {
            Due.refused(x, "mark of none such: 2 ahead of 5", x.mark(n[0], n[1], n[2], 101), 2);
        }
        Due.refused(x, "mark(0, 0, 0, 101)", x.mark(0, 0, 0, 101), 5);
        Due.refused(x, "mark(0, 0, 0, -2)", x.mark(0, 0, 0, -2), 5);
        Due.fine(x, "mark(5, 8, 2, 100)", x.mark(5, 8, 2, 100));
        Due.fine(x, "mark(5, 8, 2, NONE)", x.mark(5, 8, 2, -1));
        Due.fine(x, "mark(5, 8, 2, NONE) again", x.mark(5, 8, 2, -1));
        Due.refused(x, "weight(-1, 0): 2 ahead of 5", x.weight(-1, 0), 2);
        Due.refused(x, "weight(3, 1)", x.weight(3, 1), 2);
        Due.refused(x, "weight(0, 0)", x.weight(0, 0), 5);
        Due.refused(x, "weight(0, 10)", x.weight(0, 10), 5);
        Due.fine(x, "weight(2, 9)", x.weight(2, 9));
        Due.refused(x, "total(-1)", x.total(-1), 2);
        Due.refused(x, "total(6)", x.total(6), 2);
        Due.refused(x, "rank(-1)", x.rank(-1), 2);
        Due.refused(x, "rank(6)", x.rank(6), 2);
        for (int trait = 0; trait < 3; trait++) {
            Due.refused(x, "total(5) with " + trait + " TRAITS", x.total(5), 8);
            Due.refused(x, "rank(5) with " + trait + " TRAITS", x.rank(5), 8);
            x.mark(5, trait, trait, 0);
        }
        total(x, 5, 0, 1);
        Due.fine(x, "rank(5)", x.rank(5), 1);
    }

    private static void totals() {
        DrillField x = new DrillField();
        marks(x, 0, 0, 10);
        marks(x, 0, 1, 20, 25);
        marks(x, 0, 2, 90, 30, 60);
        // 10 + 45/2 + 60
        total(x, 0, 185, 2);
        x.weight(0, 3);
        x.weight(1, 2);
        x.weight(2, 9);
        // 30 + 45 + 540
        total(x, 0, 615, 1);
        marks(x, 0, 2, 90, 30, 60, 90, 30);
        // without one 90 and one 30: 60 + 90 + 30 by 3, times 9 = 540
        total(x, 0, 615, 1);
        marks(x, 0, 2, 7, 7, 7);
        // 7, 7, 7, 90, 30: 7 + 7 + 30 by 3 is 44/3, times 9 = 132
        total(x, 0, 207, 1);
        marks(x, 0, 0, 1, 2, 3, 4, 5, 6, 7, 8, 100);
        // 2 to 8 by 7 = 5, times 3
        total(x, 0, 192, 1);
        marks(x, 0, 1, 0, 0, 1, 1, 1, 1, 1, 2);
        // 0 1 1 1 1 1 by 6 = 5/6, times 2 = 5/3
        total(x, 0, 15 * 3 + 5 + 132 * 3, 3);
        marks(x, 0, 1, -1, -1, -1, -1, -1, -1, 50, 60);
        // two are left
        total(x, 0, 15 + 110 + 132, 1);
        marks(x, 2, 0, 0, 0, 0);
        marks(x, 2, 1, 100, 100, 100);
        marks(x, 2, 2, 100, 0, 100);
        // 0, 2 x 100, 9 x 100
        total(x, 2, 1100, 1);
        DrillField y = new DrillField();
        for (int trait = 0; trait < 3; trait++) {
            marks(y, 3, trait, 100, 100, 100, 100, 100, 100, 100, 100, 100);
            y.weight(trait, 9);
        }
        total(y, 3, 2700, 1);
        marks(y, 3, 0, 0, 0, 0, 0, 0, 0, 0, 1, 1);
        marks(y, 3, 1, 0, 0, 0, 0, 0, 1, 1, -1, -1);
        marks(y, 3, 2, 0, 0, 0, 1, 1, 1, -1, -1, -1);
        y.weight(0, 1);
        y.weight(1, 1);
        y.weight(2, 1);
        // 1/7 + 1/5 + 2/4
        total(y, 3, 59, 70);
    }

    private static void fraction() {
        DrillField x = new DrillField();
        marks(x, 1, 0, 1, 2);
        marks(x, 1, 1, 0);
        marks(x, 1, 2, 0);
        total(x, 1, 3, 2);
        Due.refused(x, "total(0)", x.total(0), 8);
        Due.refused(x, "total(9)", x.total(9), 2);
        Due.is("upper() behind refusals", x.upper(), 3);
        Due.is("lower() behind refusals", x.lower(), 2);
        Due.is("status(): upper() and lower() have none", x.status(), 2);
        x.mark(1, 0, 0, 100);
        Due.fine(x, "rank(1)", x.rank(1), 1);
        Due.is("upper() is the one told", x.upper(), 3);
        Due.is("lower() is the one told", x.lower(), 2);
        total(x, 1, 51, 1);
    }

    private static void ranks() {
        DrillField x = new DrillField();
        int[] each = {10, 30, 20, 30, 5};
        for (int show = 0; show < 5; show++) {
            for (int trait = 0; trait < 3; trait++) {
                marks(x, show, trait, each[show]);
            }
        }
        int[] want = {4, 1, 3, 1, 5};
        for (int show = 0; show < 5; show++) {
            Due.fine(x, "rank(" + show + ")", x.rank(show), want[show]);
        }
        Due.refused(x, "rank(5)", x.rank(5), 8);
        x.mark(1, 0, 2, -1);
        Due.fine(x, "rank(0): one has no TOTAL", x.rank(0), 3);
        Due.refused(x, "rank(1)", x.rank(1), 8);
        // 5/3 against 2: FRACTIONS, not whole numbers.
        DrillField y = new DrillField();
        marks(y, 0, 0, 0, 1, 2, 2, 9);
        marks(y, 0, 1, 0);
        marks(y, 0, 2, 0);
        marks(y, 1, 0, 1, 2);
        marks(y, 1, 1, 0);
        marks(y, 1, 2, 0);
        Due.fine(y, "rank(0): 5/3", y.rank(0), 1);
        Due.fine(y, "rank(1): 3/2", y.rank(1), 2);
        marks(y, 1, 1, 1);
        Due.fine(y, "rank(0): 5/3", y.rank(0), 2);
        Due.fine(y, "rank(1): 5/2", y.rank(1), 1);
        y.weight(0, 9);
        Due.fine(y, "rank(0): 15", y.rank(0), 1);
        Due.fine(y, "rank(1): 29/2", y.rank(1), 2);
    }
}
