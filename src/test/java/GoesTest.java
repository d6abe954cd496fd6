/** Promises 22 and 23: goes, spotOf. */
public final class GoesTest {
    public static void main(String[] args) {
        statuses();
        choices();
        clashes();
        kept();
        six();
        Due.end("GoesTest");
    }

    private static DrillField field(int... spots) {
        DrillField x = new DrillField();
        for (int i = 0; i + 1 < spots.length; i += 2) {
            x.marcher(spots[i], spots[i + 1], 0);
        }
        return x;
    }

    private static void statuses() {
        DrillField x = field(10, 10, 20, 10, 30, 10, 40, 10, 50, 10, 10, 20, 20, 20);
        Due.refused(x, "spotOf(0)", x.spotOf(0), 8);
        Due.refused(x, "spotOf(NONE)", x.spotOf(-1), 8);
        Due.refused(x, "goes(-1, 9, 99): 1 first", x.goes(-1, 9, 99), 1);
        Due.refused(x, "goes(4, 1, 1)", x.goes(4, 1, 1), 1);
        Due.refused(x, "goes(0, 9, 99): 3 ahead of 5", x.goes(0, 9, 99), 3);
        x.tray(0, 0, 3);
        Due.refused(x, "goes(0, 0, 1)", x.goes(0, 0, 1), 5);
        Due.refused(x, "goes(0, -1, 1)", x.goes(0, -1, 1), 5);
        Due.refused(x, "goes(0, 7, 1): 5 ahead of 4", x.goes(0, 7, 1), 5);
        Due.refused(x, "goes(0, 2147483647, 1)", x.goes(0, Integer.MAX_VALUE, 1), 5);
        Due.refused(x, "goes(0, 2, 0): 5 ahead of 4", x.goes(0, 2, 0), 5);
        Due.refused(x, "goes(0, 2, 41)", x.goes(0, 2, 41), 5);
        Due.refused(x, "goes(0, 2, 1): too few numbers", x.goes(0, 2, 1), 4);
        Due.fine(x, "goes(0, 1, 1)", x.goes(0, 1, 1), 200);
        long[][] wrong = {{60, 0, 1, 1}, {-1, 0, 1, 1}, {0, 40, 1, 1}, {1, 1, 0, -1}, {1, 1, 1, 1},
            {1L << 32, 0, 1, 1}, {0, 0, 1, Long.MIN_VALUE}};
        for (long[] w : wrong) {
            Due.lay(x, 1, 3, w);
            Due.refused(x, "goes(1, 2, 5): SPOTS that can't be", x.goes(1, 2, 5), 5);
        }
        Due.lay(x, 1, 3, 0, 39, 59, 0, 99, 99);
        Due.fine(x, "goes(1, 2, 40): those behind are not asked", x.goes(1, 2, 40), 1621);
        DrillField y = field(1, 1);
        Due.lay(y, 0, 0, 1, 1, 2, 2);
        Due.refused(y, "goes(0, 2, 1): more than there are", y.goes(0, 2, 1), 5);
        Due.fine(y, "goes(0, 1, 1): one that stays", y.goes(0, 1, 1), 0);
    }

    private static void choices() {
        // Both greatest ways are alike, so the sum tells; then the first.
        DrillField x = field(10, 10, 20, 10);
        Due.lay(x, 0, 2, 20, 12, 10, 12);
        Due.fine(x, "goes(0, 2, 3)", x.goes(0, 2, 3), 4);
        Due.fine(x, "spotOf(0)", x.spotOf(0), 1);
        Due.fine(x, "spotOf(1)", x.spotOf(1), 0);
        Due.fine(x, "spotOf(NONE)", x.spotOf(-1), 8);
        Due.refused(x, "spotOf(2)", x.spotOf(2), 8);
        Due.refused(x, "spotOf(-2)", x.spotOf(-2), 8);
        // 0 at 10, 10 and 1 at 10, 14: SPOTS 8, 12 and 12, 12 are as far from both.
        DrillField y = field(10, 10, 10, 14);
        Due.lay(y, 0, 2, 12, 12, 8, 12);
        Due.fine(y, "goes(0, 2, 4)", y.goes(0, 2, 4), 8);
        Due.fine(y, "spotOf(0): of several the first", y.spotOf(0), 0);
        Due.fine(y, "spotOf(1)", y.spotOf(1), 1);
        Due.fine(y, "spotOf(NONE)", y.spotOf(-1), 16);
        // The least greatest goes ahead of the least sum: 0 and 1 move one on each.
        DrillField z = field(10, 10, 13, 10);
        Due.lay(z, 0, 2, 13, 10, 16, 10);
        Due.fine(z, "goes(0, 2, 3)", z.goes(0, 2, 3), 9);
        Due.fine(z, "spotOf(0)", z.spotOf(0), 0);
        Due.fine(z, "spotOf(NONE)", z.spotOf(-1), 18);
        // One that goes farther makes the greatest the same for both: then the sum tells.
        DrillField w = field(50, 35, 10, 10, 12, 10);
        Due.lay(w, 0, 2, 50, 39, 12, 12, 10, 12);
        Due.fine(w, "goes(0, 3, 9)", w.goes(0, 3, 9), 16);
        Due.fine(w, "spotOf(1)", w.spotOf(1), 2);
        Due.fine(w, "spotOf(2)", w.spotOf(2), 1);
        Due.fine(w, "spotOf(NONE)", w.spotOf(-1), 24);
    }

    private static void clashes() {
        // 0 by 4, 4 and 1 by 4, -4 would meet in the midst.
        DrillField y = field(10, 10, 10, 14);
        Due.lay(y, 0, 2, 14, 14, 14, 10);
        Due.fine(y, "goes(0, 2, 4)", y.goes(0, 2, 4), 16);
        Due.fine(y, "spotOf(0)", y.spotOf(0), 1);
        DrillField z = field(5, 5, 5, 5);
        Due.lay(z, 0, 2, 1, 1, 9, 9);
        Due.refused(z, "goes(0, 2, 4): a CLASH at the beginning", z.goes(0, 2, 4), 8);
        DrillField v = field(11, 11, 10, 10);
        Due.lay(v, 0, 2, 10, 9, 11, 12);
        Due.fine(v, "goes(0, 2, 1)", v.goes(0, 2, 1), 1);
        // The least greatest, 9, would meet on the way: 10 is taken, though its sum is less.
        DrillField u = field(12, 12, 11, 11);
        Due.lay(u, 0, 2, 14, 11, 14, 10);
        Due.fine(u, "goes(0, 2, 4)", u.goes(0, 2, 4), 10);
        Due.fine(u, "spotOf(0)", u.spotOf(0), 0);
        Due.fine(u, "spotOf(NONE)", u.spotOf(-1), 15);
        // 4 and 5 meet on one SPOT, another 5 by an exchange in the first count.
        DrillField s = field(13, 11, 13, 12, 13, 13);
        Due.lay(s, 0, 2, 12, 13, 11, 13, 13, 10);
        Due.fine(s, "goes(0, 3, 3)", s.goes(0, 3, 3), 8);
        Due.fine(s, "spotOf(0)", s.spotOf(0), 1);
        Due.fine(s, "spotOf(1)", s.spotOf(1), 2);
        Due.fine(s, "spotOf(2)", s.spotOf(2), 0);
        Due.fine(s, "spotOf(NONE)", s.spotOf(-1), 13);
        DrillField t = field(11, 12, 12, 12);
        Due.lay(t, 0, 2, 12, 13, 12, 14);
        Due.refused(t, "goes(0, 2, 4): both ways meet", t.goes(0, 2, 4), 8);
    }

    private static void kept() {
        DrillField x = field(10, 10, 20, 10);
        Due.lay(x, 0, 2, 20, 12, 10, 12);
        Due.fine(x, "goes(0, 2, 3)", x.goes(0, 2, 3), 4);
        x.goes(0, 3, 3);
        x.goes(3, 1, 1);
        Due.fine(x, "spotOf(0) behind refusals", x.spotOf(0), 1);
        Due.fine(x, "spotOf(NONE)", x.spotOf(-1), 8);
        DrillField y = field(5, 5, 5, 5);
        Due.lay(y, 0, 2, 7, 5, 9, 9);
        Due.fine(y, "goes(0, 1, 4)", y.goes(0, 1, 4), 4);
        Due.refused(y, "goes(0, 2, 4)", y.goes(0, 2, 4), 8);
        Due.fine(y, "spotOf(0) behind none", y.spotOf(0), 0);
        Due.refused(y, "spotOf(1)", y.spotOf(1), 8);
        Due.fine(y, "spotOf(NONE)", y.spotOf(-1), 4);
    }

    private static void six() {
        DrillField x = field(0, 0, 10, 0, 20, 0, 30, 0, 40, 0, 50, 0, 5, 5);
        Due.lay(x, 2, 0, 51, 1, 41, 1, 31, 1, 21, 1, 11, 1, 1, 1);
        Due.fine(x, "goes(2, 6, 10)", x.goes(2, 6, 10), 2);
        for (int m = 0; m < 6; m++) {
            Due.fine(x, "spotOf(" + m + ")", x.spotOf(m), 5 - m);
        }
        Due.fine(x, "spotOf(NONE)", x.spotOf(-1), 12);
        Due.refused(x, "spotOf(6)", x.spotOf(6), 8);
    }
}
