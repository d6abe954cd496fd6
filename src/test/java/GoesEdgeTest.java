/** Boundary cases of the promises 22 and 23, each under the sentence of the document that names it. */
public final class GoesEdgeTest {
    public static void main(String[] args) {
        howMany();
        moreThanThereAre();
        countsAsked();
        trayAsked();
        tooFewNumbers();
        spotsThatCantBe();
        oneTwice();
        statusOrder();
        fromWhereTheyBegin();
        oneAlone();
        clashAtBeginning();
        clashOnTheWay();
        clashByExchange();
        endsAreApart();
        othersDontHinder();
        leastGreatest();
        leastSum();
        firstOfSeveral();
        sixOfSix();
        spotOfAsked();
        latestStays();
        Due.end("GoesEdgeTest");
    }

    /** MARCHERS by east and north. */
    private static DrillField field(int... spots) {
        DrillField x = new DrillField();
        for (int i = 0; i + 1 < spots.length; i += 2) {
            x.marcher(spots[i], spots[i + 1], 0);
        }
        return x;
    }

    private static void goes(DrillField x, int counts, int greatest, int sum, int... spots) {
        Due.fine(x, "goes(0, " + spots.length + ", " + counts + ")", x.goes(0, spots.length, counts), greatest);
        for (int m = 0; m < spots.length; m++) {
            Due.fine(x, "spotOf(" + m + ")", x.spotOf(m), spots[m]);
        }
        Due.fine(x, "spotOf(NONE)", x.spotOf(-1), sum);
        Due.refused(x, "spotOf(" + spots.length + ")", x.spotOf(spots.length), 8);
    }

    private static void howMany() {
        Due.says("GOES: 1 to 6 MARCHERS, 0 and on");
        DrillField x = field(0, 0, 10, 0, 20, 0, 30, 0, 40, 0, 50, 0, 55, 0);
        Due.lay(x, 0, 3, 0, 1, 10, 1, 20, 1, 30, 1, 40, 1, 50, 1, 55, 1);
        Due.range(x, "goes of so many", 1, 6, 5, many -> x.goes(0, many, 1));
        for (int many = 1; many <= 6; many++) {
            Due.fine(x, "goes(0, " + many + ", 1)", x.goes(0, many, 1), 1);
            Due.fine(x, "spotOf(NONE)", x.spotOf(-1), many);
            Due.fine(x, "spotOf(" + (many - 1) + ")", x.spotOf(many - 1), many - 1);
            Due.refused(x, "spotOf(" + many + ")", x.spotOf(many), 8);
        }
        Due.refused(x, "goes(0, 7, 1): there are as many, and numbers", x.goes(0, 7, 1), 5);
    }

    private static void moreThanThereAre() {
        Due.says("5: so many, more than there are, counts");
        DrillField x = new DrillField();
        Due.lay(x, 0, 3, 0, 1, 10, 1, 20, 1, 30, 1, 40, 1, 50, 1);
        Due.refused(x, "goes(0, 1, 1): there is none", x.goes(0, 1, 1), 5);
        for (int many = 1; many <= 6; many++) {
            x.marcher(10 * many - 10, 0, 0);
            Due.fine(x, "goes(0, " + many + ", 1)", x.goes(0, many, 1), 1);
            Due.refused(x, "goes(0, " + (many + 1) + ", 1)", x.goes(0, many + 1, 1), 5);
        }
    }

    private static void countsAsked() {
        Due.says("in c counts (1 to 40), straight as in shift");
        DrillField x = field(0, 0, 59, 39);
        Due.lay(x, 0, 3, 30, 20, 40, 20);
        Due.range(x, "goes in counts", 1, 40, 5, counts -> x.goes(0, 2, counts));
        Due.range(x, "goes of one in counts", 1, 40, 5, counts -> x.goes(0, 1, counts));
    }

    private static void trayAsked() {
        Due.says("to as many SPOTS (in a TRAY, east and north by turns)");
        DrillField x = field(5, 5);
        Due.refused(x, "goes(0, 1, 1): MISSING", x.goes(0, 1, 1), 3);
        for (int tray = 0; tray < 4; tray++) {
            // Each sort holds a SPOT; the one of 8 bits up to 59.
            Due.lay(x, tray, tray, 59, 39);
            Due.fine(x, "goes(" + tray + ", 1, 1)", x.goes(tray, 1, 1), 54 * 54 + 34 * 34);
        }
        Due.range(x, "goes of a TRAY", 0, 3, 1, tray -> x.goes(tray, 1, 1));
        Due.lay(x, 0, 0, 9, 7);
        Due.fine(x, "goes(0, 1, 1): east first", x.goes(0, 1, 1), 20);
    }

    private static void tooFewNumbers() {
        Due.says("4 a place that the TRAY has not, or too few numbers.");
        DrillField x = field(0, 0, 10, 0, 20, 0, 30, 0, 40, 0, 50, 0);
        for (int many = 1; many <= 6; many++) {
            long[] spots = new long[2 * many];
            for (int i = 0; i < many; i++) {
                spots[2 * i] = 10 * i;
            }
            Due.lay(x, 0, 1, spots);
            Due.fine(x, "goes(0, " + many + ", 1) of just enough", x.goes(0, many, 1), 0);
            x.tray(1, 1, 2 * many - 1);
            x.pour(0, 0, 1, 0, 2 * many - 1);
            Due.refused(x, "goes(1, " + many + ", 1) of one too few", x.goes(1, many, 1), 4);
        }
        x.tray(1, 1, 0);
        Due.refused(x, "goes(1, 1, 1) of none", x.goes(1, 1, 1), 4);
    }

    private static void spotsThatCantBe() {
        Due.says("5: a SPOT, one twice");
        DrillField x = field(30, 20, 31, 20);
        for (int pair = 0; pair < 2; pair++) {
            int east = 2 * pair;
            Due.lay(x, 0, 3, 10, 10, 20, 20);
            for (long[] e : new long[][] {{0, 0}, {59, 0}, {-1, 5}, {60, 5}, {Long.MIN_VALUE, 5}, {Long.MAX_VALUE, 5}, {1L << 32, 5}}) {
                x.write(0, east, e[0]);
                int got = x.goes(0, 2, 40);
                Due.is("goes with east " + e[0] + ": status()", x.status(), e[1]);
                Due.is("goes with east " + e[0] + ": NONE", got == -1 ? 5 : 0, e[1]);
            }
            Due.lay(x, 0, 3, 10, 10, 20, 20);
            for (long[] n : new long[][] {{0, 0}, {39, 0}, {-1, 5}, {40, 5}, {Long.MIN_VALUE, 5}, {Long.MAX_VALUE, 5}, {1L << 32, 5}}) {
                x.write(0, east + 1, n[0]);
                int got = x.goes(0, 2, 40);
                Due.is("goes with north " + n[0] + ": status()", x.status(), n[1]);
                Due.is("goes with north " + n[0] + ": NONE", got == -1 ? 5 : 0, n[1]);
            }
        }
        Due.lay(x, 0, 3, 10, 10, 60, 40);
        Due.fine(x, "goes(0, 1, 1): the next pair is not asked", x.goes(0, 1, 1), 500);
    }

    private static void oneTwice() {
        Due.says("each to another one");
        DrillField x = field(5, 8, 8, 5, 5, 2);
        Due.lay(x, 0, 3, 5, 6, 6, 5, 5, 6);
        Due.refused(x, "the first and the last", x.goes(0, 3, 1), 5);
        Due.lay(x, 0, 3, 5, 6, 5, 6, 6, 5);
        Due.refused(x, "the first and the second", x.goes(0, 3, 1), 5);
        Due.fine(x, "the first alone", x.goes(0, 1, 1), 4);
        Due.lay(x, 0, 3, 5, 6, 6, 5, 5, 5);
        Due.fine(x, "alike in east or in north alone", x.goes(0, 3, 1), 9);
    }

    private static void statusOrder() {
        Due.says("(1; 3; 5: so many, more than there are, counts; 4; 5: a SPOT, one twice; 8: none can; in this order)");
        DrillField x = field(5, 5, 5, 5);
        Due.refused(x, "goes(4, 0, 0): 1", x.goes(4, 0, 0), 1);
        Due.refused(x, "goes(-1, 9, 99): 1", x.goes(-1, 9, 99), 1);
        Due.refused(x, "goes(0, 0, 0): 3", x.goes(0, 0, 0), 3);
        Due.refused(x, "goes(0, 3, 1): 3", x.goes(0, 3, 1), 3);
        Due.lay(x, 0, 3, 60, 60, 60);
        Due.refused(x, "goes(0, 0, 1): 5 ahead of 4", x.goes(0, 0, 1), 5);
        Due.refused(x, "goes(0, 7, 1): 5 ahead of 4", x.goes(0, 7, 1), 5);
        Due.refused(x, "goes(0, 3, 1): more than there are, 5 ahead of 4", x.goes(0, 3, 1), 5);
        Due.refused(x, "goes(0, 2, 0): 5 ahead of 4", x.goes(0, 2, 0), 5);
        Due.refused(x, "goes(0, 2, 41): 5 ahead of 4", x.goes(0, 2, 41), 5);
        Due.refused(x, "goes(0, 2, 1): 4 ahead of a SPOT that can't be", x.goes(0, 2, 1), 4);
        Due.lay(x, 0, 3, 7, 7, 7, 7);
        Due.refused(x, "goes(0, 2, 1): one twice, ahead of 8", x.goes(0, 2, 1), 5);
        Due.lay(x, 0, 3, 7, 7, 7, 40);
        Due.refused(x, "goes(0, 2, 1): a SPOT, ahead of 8", x.goes(0, 2, 1), 5);
        Due.lay(x, 0, 3, 7, 7, 7, 39);
        Due.refused(x, "goes(0, 2, 1): 8", x.goes(0, 2, 1), 8);
    }

    private static void fromWhereTheyBegin() {
        Due.says("from where they begin, to as many SPOTS");
        DrillField x = Due.field(5, 5, 0);
        Due.is("run", Due.runOf(x, "a: go 9;"), 9);
        Due.lay(x, 0, 0, 5, 6);
        goes(x, 1, 1, 1, 0);
    }

    private static void oneAlone() {
        Due.says("the least greatest square of a way (east and north squared, together)");
        DrillField x = field(0, 0);
        Due.lay(x, 0, 0, 0, 0);
        goes(x, 1, 0, 0, 0);
        Due.lay(x, 0, 0, 59, 39);
        goes(x, 40, 59 * 59 + 39 * 39, 59 * 59 + 39 * 39, 0);
    }

    private static void clashAtBeginning() {
        Due.says("no CLASH among them, ahead of, or at the end");
        DrillField x = field(5, 5, 5, 5, 9, 9);
        Due.lay(x, 0, 0, 1, 1, 20, 20, 30, 30);
        Due.refused(x, "goes(0, 2, 40): on one SPOT at COUNT 0", x.goes(0, 2, 40), 8);
        Due.refused(x, "goes(0, 3, 1)", x.goes(0, 3, 1), 8);
        Due.fine(x, "goes(0, 1, 1): the other is not among them", x.goes(0, 1, 1), 32);
    }

    private static void clashOnTheWay() {
        Due.says("no CLASH among them, ahead of, or at the end");
        // 4 and 4 would be the least: both are on 11, 13 behind the first count (10.5 and 12.5 up).
        DrillField first = field(10, 13, 11, 13);
        Due.lay(first, 0, 0, 12, 13, 11, 11);
        goes(first, 4, 5, 6, 1, 0);
        // 0 to 12, 11 and 2 to 11, 11 would be both on 12, 11 a count ahead of the end.
        DrillField last = field(13, 10, 11, 13, 13, 11);
        Due.lay(last, 0, 0, 11, 12, 11, 11, 12, 11);
        goes(last, 3, 5, 11, 2, 1, 0);
        // All ways meet in four counts; in one count there is no way to meet on.
        DrillField all = field(11, 12, 12, 12);
        Due.lay(all, 0, 0, 12, 13, 12, 14);
        Due.refused(all, "goes(0, 2, 4)", all.goes(0, 2, 4), 8);
        goes(all, 1, 4, 6, 0, 1);
    }

    private static void clashByExchange() {
        Due.says("no CLASH among them, ahead of, or at the end");
        // 5, 5, 4 would be the least: 0 to 12, 13 and 1 to 12, 10 exchange in the first count.
        DrillField first = field(11, 11, 11, 12, 11, 13);
        Due.lay(first, 0, 0, 13, 13, 12, 10, 12, 13);
        goes(first, 3, 8, 14, 0, 1, 2);
        // 5, 5, 4 again: 0 to 12, 12 and 1 to 12, 11 exchange in the last count.
        DrillField last = field(11, 10, 11, 13, 10, 13);
        Due.lay(last, 0, 0, 12, 12, 12, 11, 12, 13);
        goes(last, 3, 8, 14, 0, 2, 1);
    }

    private static void endsAreApart() {
        Due.says("no CLASH among them, ahead of, or at the end");
        DrillField x = field(0, 0, 1, 0);
        Due.lay(x, 0, 0, 1, 0, 0, 0);
        goes(x, 1, 0, 0, 1, 0);
        DrillField y = field(58, 39, 59, 39);
        Due.lay(y, 0, 0, 58, 38, 59, 38);
        goes(y, 40, 1, 2, 0, 1);
    }

    private static void othersDontHinder() {
        Due.says("no CLASH among them");
        // A MARCHER that is not among them, and a PROP, stand on the way and at its end.
        DrillField x = field(10, 10, 20, 20, 12, 10, 14, 10);
        x.prop(11, 10);
        x.prop(20, 21);
        Due.lay(x, 0, 0, 14, 10, 20, 21);
        goes(x, 4, 16, 17, 0, 1);
    }

    private static void leastGreatest() {
        Due.says("the least greatest square of a way");
        // 4 and 4, though 5 and 1 are less together.
        DrillField x = field(12, 11, 13, 11);
        Due.lay(x, 0, 0, 12, 13, 11, 11);
        goes(x, 2, 4, 8, 0, 1);
        // 8 and 8, though 9 and 1 are less together.
        DrillField y = field(12, 10, 13, 12);
        Due.lay(y, 0, 0, 10, 12, 11, 10);
        goes(y, 2, 8, 16, 0, 1);
    }

    private static void leastSum() {
        Due.says("then the least of all squares together");
        DrillField x = field(50, 35, 10, 10, 12, 10);
        Due.lay(x, 0, 0, 12, 12, 10, 12, 50, 39);
        // 0 must go 16; 1 and 2 by 4 each, not by 8 each.
        goes(x, 9, 16, 24, 2, 1, 0);
    }

    private static void firstOfSeveral() {
        Due.says("of several the first: MARCHER by MARCHER the lesser SPOT");
        DrillField x = field(10, 10, 10, 14);
        Due.lay(x, 0, 0, 12, 12, 8, 12);
        goes(x, 2, 8, 16, 0, 1);
        Due.lay(x, 0, 0, 8, 12, 12, 12);
        goes(x, 2, 8, 16, 0, 1);
        // Three are alike: 0 2 1 ahead of 1 0 2 and 1 2 0.
        DrillField z = field(11, 10, 13, 11, 11, 11);
        Due.lay(z, 0, 0, 12, 10, 10, 10, 12, 12);
        goes(z, 2, 2, 5, 0, 2, 1);
        // MARCHER 0's SPOT is the same in both; MARCHER 1 has the lesser one.
        DrillField y = field(50, 35, 10, 10, 10, 14);
        Due.lay(y, 0, 0, 12, 12, 50, 36, 8, 12);
        goes(y, 2, 8, 17, 1, 0, 2);
    }

    private static void sixOfSix() {
        Due.says("GOES: 1 to 6 MARCHERS, 0 and on");
        DrillField x = field(0, 0, 10, 0, 20, 0, 30, 0, 40, 0, 50, 0);
        Due.lay(x, 0, 0, 50, 39, 40, 39, 30, 39, 20, 39, 10, 39, 0, 39);
        goes(x, 40, 1521, 6 * 1521, 5, 4, 3, 2, 1, 0);
        DrillField full = new DrillField();
        for (int i = 0; i < 20; i++) {
            full.marcher(i, 0, 0);
        }
        Due.lay(full, 0, 0, 0, 1, 1, 1, 2, 1, 3, 1, 4, 1, 5, 1);
        goes(full, 1, 1, 6, 0, 1, 2, 3, 4, 5);
    }

    private static void spotOfAsked() {
        Due.says("The SPOT (0 for the first pair) of a MARCHER by goes() latest with STATUS 0; the sum of all squares for NONE "
                + "(8: none such).");
        DrillField x = field(10, 10, 20, 10, 30, 10);
        for (int m = -2; m <= 3; m++) {
            Due.refused(x, "spotOf(" + m + ") ahead of any", x.spotOf(m), 8);
        }
        Due.lay(x, 0, 0, 20, 11, 10, 11);
        Due.refused(x, "goes(0, 3, 2)", x.goes(0, 3, 2), 4);
        Due.refused(x, "spotOf(0) behind a refused one", x.spotOf(0), 8);
        Due.refused(x, "spotOf(NONE) behind a refused one", x.spotOf(-1), 8);
        goes(x, 2, 1, 2, 1, 0);
        Due.range(x, "spotOf", -1, 1, 8, x::spotOf);
        Due.refused(x, "spotOf(2): there, but not among them", x.spotOf(2), 8);
    }

    private static void latestStays() {
        Due.says("by goes() latest with STATUS 0");
        DrillField x = field(10, 10, 20, 10, 20, 10);
        Due.lay(x, 0, 0, 20, 11, 10, 11, 30, 30);
        goes(x, 2, 1, 2, 1, 0);
        Due.refused(x, "goes(0, 3, 2): none can", x.goes(0, 3, 2), 8);
        Due.refused(x, "goes(0, 0, 2)", x.goes(0, 0, 2), 5);
        Due.refused(x, "goes(1, 1, 2)", x.goes(1, 1, 2), 3);
        Due.fine(x, "spotOf(0)", x.spotOf(0), 1);
        Due.fine(x, "spotOf(1)", x.spotOf(1), 0);
        Due.fine(x, "spotOf(NONE)", x.spotOf(-1), 2);
        Due.refused(x, "spotOf(2)", x.spotOf(2), 8);
        x.tray(0, 0, 0);
        Due.fine(x, "spotOf(0): the TRAY is another one now", x.spotOf(0), 1);
        Due.lay(x, 0, 0, 13, 14);
        goes(x, 1, 25, 25, 0);
        Due.refused(x, "spotOf(1): not by the latest", x.spotOf(1), 8);
    }
}
