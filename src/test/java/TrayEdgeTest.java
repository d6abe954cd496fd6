/** Boundary cases of the promises 1 to 6, each under the sentence of the document that names it. */
public final class TrayEdgeTest {
    private static final long[] LEAST = {Byte.MIN_VALUE, Short.MIN_VALUE, Integer.MIN_VALUE, Long.MIN_VALUE};
    private static final long[] MOST = {Byte.MAX_VALUE, Short.MAX_VALUE, Integer.MAX_VALUE, Long.MAX_VALUE};

    public static void main(String[] args) {
        newObject();
        newBesideFull();
        calls512();
        status();
        callsWithoutStatus();
        trayNumbers();
        trayLengths();
        allZero();
        cuts();
        places();
        noneAndMinusOne();
        pourPlaces();
        pourAsTheyWere();
        pourNone();
        pourOrder();
        Due.end("TrayEdgeTest");
    }

    private static void newObject() {
        Due.says("TRAYS are MISSING, no MARCHERS, GROUPS, TEXT, RUN, PERSONS, MARKS, an empty tape; "
                + "the FRACTION 0 by 1; STATUS 0.");
        isNew(new DrillField());
    }

    private static void isNew(DrillField x) {
        Due.is("status()", x.status(), 0);
        Due.is("upper()", x.upper(), 0);
        Due.is("lower()", x.lower(), 1);
        for (int t = 0; t < 4; t++) {
            Due.refused(x, "read(" + t + ", 0)", x.read(t, 0), 3);
        }
        Due.refused(x, "run(): no TEXT", x.run(), 8);
        Due.refused(x, "told(0): no RUN", x.told(0), 8);
        Due.refused(x, "orders(1) of an empty tape", x.orders(1), 5);
        Due.is("fault(0)", x.fault(0), -1);
        Due.is("fault(1)", x.fault(1), -1);
        Due.is("error(0)", x.error(0), -1);
        Due.is("error(1)", x.error(1), -1);
        Due.refused(x, "spotOf(NONE)", x.spotOf(-1), 8);
        Due.refused(x, "move(0)", x.move(0), 8);
        Due.refused(x, "path(0, 0, 0, 0): no MARCHER", x.path(0, 0, 0, 0), 2);
        Due.refused(x, "person(1): no MARCHER", x.person(1), 5);
        Due.refused(x, "away(0, 0, 0, 0): no PERSON", x.away(0, 0, 0, 0), 2);
        Due.fine(x, "filled(0, 0)", x.filled(0, 0), 0);
        for (int show = 0; show < 6; show++) {
            Due.refused(x, "total(" + show + ")", x.total(show), 8);
            Due.refused(x, "rank(" + show + ")", x.rank(show), 8);
        }
        Due.fine(x, "orders(0)", x.orders(0), 0);
        Due.fine(x, "run()", x.run(), 0);
        Due.refused(x, "dressed(0, 0): no GROUP", x.dressed(0, 0), 2);
        Due.refused(x, "at(0, 0, 0): no MARCHER", x.at(0, 0, 0), 2);
        Due.fine(x, "the first MARCHER", x.marcher(0, 0, 0), 0);
        Due.fine(x, "the first GROUP", x.group(1, 1), 0);
        Due.fine(x, "the first PERSON", x.person(1), 0);
        Due.is("the first feed", x.feed(0, 0, 0, 0, 0), 20);
    }

    private static void newBesideFull() {
        Due.says("A new object");
        DrillField full = Due.field(1, 1, 1, 2, 2, 2);
        Due.lay(full, 0, 0, 1, 2, 3, 4);
        full.person(1);
        for (int trait = 0; trait < 3; trait++) {
            full.mark(0, 0, trait, 7);
        }
        full.total(0);
        Due.runOf(full, "a: go 1;");
        full.goes(0, 2, 1);
        full.path(0, 5, 5, -1);
        Due.feed(full, "a");
        full.read(9, 9);
        isNew(new DrillField());
        Due.is("status() of the full one", full.status(), 1);
        Due.is("upper() of the full one", full.upper(), 21);
    }

    private static void calls512() {
        Due.says("An object is used for at most 512 calls after it has been made");
        DrillField x = new DrillField();
        x.tray(0, 3, 1);
        for (int call = 2; call < 512; call++) {
            x.write(0, 0, call);
        }
        Due.is("the 512th call", x.read(0, 0), 511);
    }

    private static void status() {
        Due.says("The STATUS of the latest call that has one.");
        DrillField x = new DrillField();
        x.tray(0, 0, 41);
        Due.is("status()", x.status(), 5);
        Due.is("status() again", x.status(), 5);
        x.tray(0, 0, -1);
        Due.is("status() of the next", x.status(), 6);
        x.tray(0, 0, 1);
        Due.is("status() behind a call that is well", x.status(), 0);
    }

    private static void callsWithoutStatus() {
        Due.says("status(), upper(), lower(), fault(), error(), feed() have none.");
        DrillField x = new DrillField();
        for (int status = 0; status <= 1; status++) {
            x.tray(status == 0 ? 0 : 4, 0, 1);
            x.upper();
            x.lower();
            for (int what = -1; what <= 2; what++) {
                x.fault(what);
                x.error(what);
            }
            Due.is("status()", x.status(), status);
            for (int i = 0; i < 26; i++) {
                x.feed(0, 0, 0, 0, 0);
            }
            Due.is("status() behind feeds, one too many among them", x.status(), status);
            x.orders(1);
        }
    }

    private static void trayNumbers() {
        Due.says("TRAYS, 0 to 3, are MISSING at first, or rows of numbers of 8 bits (sort 0), 16 (1), 32 (2) or 64 (3)");
        DrillField x = new DrillField();
        Due.rangeYes(x, "tray", 0, 3, 1, tray -> x.tray(tray, 0, 1));
        Due.rangeYes(x, "tray of a sort", 0, 3, 1, sort -> x.tray(0, sort, 1));
        Due.rangeYes(x, "write to a TRAY", 0, 3, 1, tray -> x.write(tray, 0, 1));
        Due.fine(x, "tray(1, 0, 1)", x.tray(1, 0, 1));
        Due.refused(x, "write(2, 0, 1): still MISSING", x.write(2, 0, 1), 3);
        Due.refused(x, "read(2, 0): still MISSING", x.read(2, 0), 3);
        Due.fine(x, "tray(2, 0, 1)", x.tray(2, 0, 1));
        Due.range(x, "read of a TRAY", 0, 3, 1, tray -> x.read(tray, 0));
        x.tray(0, 0, 1);
        Due.rangeYes(x, "pour from a TRAY", 0, 3, 1, tray -> x.pour(tray, 0, 1, 0, 1));
        Due.rangeYes(x, "pour to a TRAY", 0, 3, 1, tray -> x.pour(1, 0, tray, 0, 1));
    }

    private static void trayLengths() {
        Due.says("A TRAY is a row of so many numbers (at most 40; 5), all 0 (1; 5; 6).");
        DrillField x = new DrillField();
        Due.fine(x, "tray(0, 0, 40)", x.tray(0, 0, 40));
        Due.refused(x, "tray(0, 0, 41)", x.tray(0, 0, 41), 5);
        Due.refused(x, "tray(0, 0, 2147483647)", x.tray(0, 0, Integer.MAX_VALUE), 5);
        Due.refused(x, "tray(0, 0, -1)", x.tray(0, 0, -1), 6);
        Due.refused(x, "tray(0, 0, -2147483648)", x.tray(0, 0, Integer.MIN_VALUE), 6);
        Due.range(x, "read of 40", 0, 39, 4, place -> x.read(0, place));
        Due.fine(x, "tray(0, 0, 1)", x.tray(0, 0, 1));
        Due.range(x, "read of 1", 0, 0, 4, place -> x.read(0, place));
        Due.fine(x, "tray(0, 0, 0): empty, not MISSING", x.tray(0, 0, 0));
        Due.refused(x, "read(0, 0)", x.read(0, 0), 4);
        Due.refused(x, "read(0, -1)", x.read(0, -1), 4);
        Due.refused(x, "write(0, 0, 0)", x.write(0, 0, 0), 4);
    }

    private static void allZero() {
        Due.says("A TRAY is a row of so many numbers (at most 40; 5), all 0");
        DrillField x = new DrillField();
        for (int sort = 0; sort < 4; sort++) {
            x.tray(2, sort, 40);
            x.write(2, 0, -1);
            x.write(2, 39, -1);
            Due.fine(x, "tray anew, shorter", x.tray(2, sort, 1));
            Due.fine(x, "read(2, 0)", x.read(2, 0), 0);
            Due.fine(x, "tray anew, as long as at first", x.tray(2, sort, 40));
            Due.fine(x, "read(2, 0)", x.read(2, 0), 0);
            Due.fine(x, "read(2, 39)", x.read(2, 39), 0);
        }
    }

    private static void cuts() {
        Due.says("with sign; what is written is cut to these.");
        DrillField x = new DrillField();
        for (int sort = 0; sort < 4; sort++) {
            x.tray(0, sort, 1);
            long[][] cut = {{LEAST[sort], LEAST[sort]}, {MOST[sort], MOST[sort]}, {MOST[sort] + 1, LEAST[sort]},
                {LEAST[sort] - 1, MOST[sort]}, {2 * MOST[sort] + 1, -1}, {2 * MOST[sort] + 2, 0}, {-1, -1}, {0, 0}};
            for (long[] c : cut) {
                Due.fine(x, "write(0, 0, " + c[0] + ") of sort " + sort, x.write(0, 0, c[0]));
                Due.fine(x, "read(0, 0) of " + c[0] + " in sort " + sort, x.read(0, 0), c[1]);
            }
        }
        for (int sort = 0; sort < 3; sort++) {
            x.tray(0, sort, 1);
            x.write(0, 0, Long.MIN_VALUE);
            Due.fine(x, "read(0, 0) of the least long", x.read(0, 0), 0);
            x.write(0, 0, Long.MAX_VALUE);
            Due.fine(x, "read(0, 0) of the greatest long", x.read(0, 0), -1);
        }
    }

    private static void places() {
        Due.says("A number comes to a place of a TRAY (1; 3; 4).");
        DrillField x = new DrillField();
        x.tray(3, 3, 3);
        Due.rangeYes(x, "write to a place", 0, 2, 4, place -> x.write(3, place, 8 + place));
        Due.range(x, "read of a place", 0, 2, 4, place -> x.read(3, place));
        Due.fine(x, "read(3, 0)", x.read(3, 0), 8);
        Due.fine(x, "read(3, 1): beside both", x.read(3, 1), 0);
        Due.fine(x, "read(3, 2)", x.read(3, 2), 10);
    }

    private static void noneAndMinusOne() {
        Due.says("The number in a place of a TRAY; STATUS tells NONE from -1 (1; 3; 4).");
        DrillField x = new DrillField();
        Due.lay(x, 0, 3, -1);
        Due.fine(x, "read(0, 0)", x.read(0, 0), -1);
        Due.refused(x, "read(0, 1)", x.read(0, 1), 4);
        Due.refused(x, "read(1, 0)", x.read(1, 0), 3);
        Due.refused(x, "read(4, 0)", x.read(4, 0), 1);
    }

    private static void numbers(DrillField x, int tray, long... want) {
        for (int i = 0; i < want.length; i++) {
            Due.fine(x, "read(" + tray + ", " + i + ")", x.read(tray, i), want[i]);
        }
    }

    private static void pourPlaces() {
        Due.says("So many numbers from place i on of a TRAY come to place j on of another one, or the same");
        DrillField x = new DrillField();
        Due.lay(x, 0, 1, 1, 2, 3, 4);
        Due.lay(x, 1, 1, 5, 6, 7);
        Due.rangeYes(x, "pour of one from i", 0, 3, 4, i -> x.pour(0, i, 1, 0, 1));
        numbers(x, 1, 4, 6, 7);
        Due.rangeYes(x, "pour of one to j", 0, 2, 4, j -> x.pour(0, 0, 1, j, 1));
        numbers(x, 1, 1, 6, 1);
        Due.refused(x, "one too many in the other", x.pour(0, 0, 1, 0, 4), 4);
        Due.refused(x, "one too many in the first", x.pour(1, 0, 0, 0, 4), 4);
        Due.refused(x, "one too far in the other", x.pour(0, 0, 1, 1, 3), 4);
        Due.refused(x, "one too far in the first", x.pour(0, 2, 1, 0, 3), 4);
        int big = Integer.MAX_VALUE;
        int[][] huge = {{big, 0, 1}, {0, big, 1}, {big, 0, big}, {0, big, big}, {1, 1, big}, {big, big, big},
            {Integer.MIN_VALUE, 0, big}, {0, Integer.MIN_VALUE, big}, {-1, 0, 2}, {0, -1, 2}};
        for (int[] h : huge) {
            Due.refused(x, "pour(0, " + h[0] + ", 1, " + h[1] + ", " + h[2] + ")", x.pour(0, h[0], 1, h[1], h[2]), 4);
        }
        numbers(x, 0, 1, 2, 3, 4);
        numbers(x, 1, 1, 6, 1);
        Due.fine(x, "as many as it has", x.pour(0, 1, 1, 0, 3));
        numbers(x, 1, 2, 3, 4);
        x.tray(2, 3, 40);
        x.tray(3, 3, 40);
        x.write(2, 39, Long.MIN_VALUE);
        Due.fine(x, "all forty", x.pour(2, 0, 3, 0, 40));
        Due.fine(x, "read(3, 39)", x.read(3, 39), Long.MIN_VALUE);
        Due.refused(x, "forty-one", x.pour(2, 0, 3, 0, 41), 4);
    }

    private static void pourAsTheyWere() {
        Due.says("come to place j on of another one, or the same, as they were");
        DrillField x = new DrillField();
        Due.lay(x, 0, 2, 1, 2, 3, 4, 5);
        Due.fine(x, "a place farther", x.pour(0, 0, 0, 1, 4));
        numbers(x, 0, 1, 1, 2, 3, 4);
        Due.fine(x, "a place back", x.pour(0, 1, 0, 0, 4));
        numbers(x, 0, 1, 2, 3, 4, 4);
        Due.fine(x, "onto itself", x.pour(0, 0, 0, 0, 5));
        numbers(x, 0, 1, 2, 3, 4, 4);
        Due.fine(x, "two places farther", x.pour(0, 0, 0, 2, 3));
        numbers(x, 0, 1, 2, 1, 2, 3);
    }

    private static void pourNone() {
        Due.says("So many numbers from place i on");
        DrillField x = new DrillField();
        Due.lay(x, 0, 0, 1, 2);
        Due.lay(x, 1, 0, 3);
        x.tray(2, 0, 0);
        Due.fine(x, "none", x.pour(0, 0, 1, 0, 0));
        Due.fine(x, "none, at both ends", x.pour(0, 2, 1, 1, 0));
        Due.refused(x, "none, behind the first's end", x.pour(0, 3, 1, 0, 0), 4);
        Due.refused(x, "none, behind the other's end", x.pour(0, 0, 1, 2, 0), 4);
        Due.refused(x, "none, ahead of the first", x.pour(0, -1, 1, 0, 0), 4);
        Due.refused(x, "none, ahead of the other", x.pour(0, 0, 1, -1, 0), 4);
        Due.fine(x, "none of an empty one", x.pour(2, 0, 2, 0, 0));
        Due.refused(x, "one of an empty one", x.pour(2, 0, 1, 0, 1), 4);
        Due.refused(x, "one to an empty one", x.pour(1, 0, 2, 0, 1), 4);
        numbers(x, 0, 1, 2);
        numbers(x, 1, 3);
    }

    private static void pourOrder() {
        Due.says("1, 3 (either), 11, 6, 4, asked in this order.");
        DrillField x = new DrillField();
        Due.lay(x, 0, 1, 1, 2);
        Due.lay(x, 1, 2, 3, 4);
        Due.refused(x, "pour(-1, 9, 3, 9, -1): 1", x.pour(-1, 9, 3, 9, -1), 1);
        Due.refused(x, "pour(3, 9, 4, 9, -1): 1", x.pour(3, 9, 4, 9, -1), 1);
        Due.refused(x, "pour(2, 9, 0, 9, -1): 3, the first", x.pour(2, 9, 0, 9, -1), 3);
        Due.refused(x, "pour(0, 9, 2, 9, -1): 3, the other", x.pour(0, 9, 2, 9, -1), 3);
        Due.refused(x, "pour(2, 9, 2, 9, -1): 3, both", x.pour(2, 9, 2, 9, -1), 3);
        Due.refused(x, "pour(0, 9, 1, 9, -1): 11", x.pour(0, 9, 1, 9, -1), 11);
        Due.refused(x, "pour(1, 9, 0, 9, 9): 11 ahead of 4", x.pour(1, 9, 0, 9, 9), 11);
        Due.refused(x, "pour(0, 0, 1, 0, 0): 11, of none", x.pour(0, 0, 1, 0, 0), 11);
        Due.refused(x, "pour(0, 9, 0, 9, -1): 6", x.pour(0, 9, 0, 9, -1), 6);
        Due.refused(x, "pour(0, 0, 0, 0, -1): 6", x.pour(0, 0, 0, 0, -1), 6);
        Due.refused(x, "pour(0, 0, 0, 0, -2147483648): 6", x.pour(0, 0, 0, 0, Integer.MIN_VALUE), 6);
        Due.refused(x, "pour(0, 9, 0, 0, 1): 4", x.pour(0, 9, 0, 0, 1), 4);
        for (int sort = 0; sort < 4; sort++) {
            for (int other = 0; other < 4; other++) {
                x.tray(2, sort, 1);
                x.tray(3, other, 1);
                x.write(2, 0, 100);
                boolean poured = x.pour(2, 0, 3, 0, 1);
                Due.is("pour of sort " + sort + " to " + other, poured ? 1 : 0, sort == other ? 1 : 0);
                Due.is("status()", x.status(), sort == other ? 0 : 11);
                Due.is("read(3, 0)", x.read(3, 0), sort == other ? 100 : 0);
            }
        }
    }
}
