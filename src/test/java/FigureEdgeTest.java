/** Boundary cases of the promises 17 to 21, each under the sentence of the document that names it. */
public final class FigureEdgeTest {
    public static void main(String[] args) {
        toldAsked();
        clashOnOneSpot();
        clashByExchange();
        noExchange();
        clashAtEnds();
        clashNumbers();
        clashAsked();
        hits();
        longSteps();
        greatestStep();
        twentyIn150();
        dressedAsked();
        dressedWithFew();
        dressedEastAndNorth();
        dressedByNumbers();
        likeAsked();
        likeOfFew();
        likeLeast();
        likeNoWay();
        likeOnOneSpot();
        likeAtTheEdges();
        seenAsked();
        seenFromEnds();
        seenOnTheWay();
        seenOnOneSpot();
        Due.end("FigureEdgeTest");
    }

    private static void clashes(DrillField x, int[]... want) {
        Due.fine(x, "told(0)", x.told(0), want.length);
        for (int k = 0; k < want.length; k++) {
            for (int what = 0; what < 3; what++) {
                Due.fine(x, "clash(" + k + ", " + what + ")", x.clash(k, what), want[k][what]);
            }
        }
        Due.refused(x, "clash(" + want.length + ", 0)", x.clash(want.length, 0), 8);
    }

    /** MARCHERS that stand still, and a RUN of COUNT 0 alone. */
    private static DrillField still(int... spots) {
        DrillField x = new DrillField();
        for (int i = 0; i + 1 < spots.length; i += 2) {
            x.marcher(spots[i], spots[i + 1], 0);
        }
        Due.is("run", Due.runOf(x, ""), 0);
        return x;
    }

    private static void toldAsked() {
        Due.says("What 0: how many CLASHES, 1: HITS, 2: LONG steps (MARCHERS and COUNTS 1 and on), 3: turns that are not WELL "
                + "(each LINE's, as often as done), 4: the greatest square of a step (5; 8).");
        DrillField x = Due.field(10, 10, 0);
        Due.refused(x, "told(-1): 5 ahead of 8", x.told(-1), 5);
        Due.refused(x, "told(5): 5 ahead of 8", x.told(5), 5);
        for (int what = 0; what < 5; what++) {
            Due.refused(x, "told(" + what + "): no RUN", x.told(what), 8);
        }
        Due.is("run", Due.runOf(x, ""), 0);
        Due.range(x, "told", 0, 4, 5, x::told);
    }

    private static void clashOnOneSpot() {
        Due.says("a CLASH is at a COUNT of two MARCHERS on one SPOT");
        clashes(still(10, 10, 10, 11));
        clashes(still(10, 10, 11, 10));
        clashes(still(10, 10, 10, 10), new int[] {0, 0, 1});
        clashes(still(10, 10, 10, 10, 10, 10), new int[] {0, 0, 1}, new int[] {0, 0, 2}, new int[] {0, 1, 2});
        clashes(still(10, 10, 20, 20, 10, 10), new int[] {0, 0, 2});
        clashes(still(0, 0, 59, 39, 59, 39), new int[] {0, 1, 2});
        clashes(still(10, 10));
        clashes(still());
        // A SPOT's east and north exchanged is another one.
        clashes(still(10, 20, 20, 10));
    }

    private static void clashByExchange() {
        Due.says("or that exchanged SPOTS since the COUNT ahead");
        DrillField x = Due.field(10, 10, 2, 11, 10, 6);
        Due.is("run", Due.runOf(x, "a: go 1;"), 1);
        clashes(x, new int[] {1, 0, 1});
        Due.is("run", Due.runOf(x, "a: go 1 back 1;"), 2);
        clashes(x, new int[] {1, 0, 1}, new int[] {2, 0, 1});
        DrillField far = Due.field(0, 0, 0, 59, 39, 0);
        far.group(1, 1);
        far.group(2, 2);
        Due.is("run", Due.runOf(far, "a: shift 59 39 1; b: shift -59 -39 1;"), 1);
        clashes(far, new int[] {1, 0, 1});
        DrillField aslant = Due.field(10, 10, 1, 11, 11, 5);
        Due.is("run", Due.runOf(aslant, "a: mark 2 go 1 mark 1;"), 4);
        clashes(aslant, new int[] {3, 0, 1});
    }

    private static void noExchange() {
        Due.says("that exchanged SPOTS since the COUNT ahead");
        DrillField one = Due.field(10, 10, 2, 11, 10, 2);
        Due.is("one goes where the other was", Due.runOf(one, "a: go 1;"), 1);
        clashes(one);
        DrillField cross = Due.field(10, 10, 1, 11, 10, 7);
        Due.is("ways that cross between SPOTS", Due.runOf(cross, "a: go 1;"), 1);
        clashes(cross);
        // In two counts, by another way, none meet.
        DrillField about = Due.field(10, 10, 2, 11, 10, 6);
        about.group(1, 1);
        about.group(2, 2);
        Due.is("exchanged in two counts", Due.runOf(about, "a: shift 0 1 1 shift 1 -1 1; b: shift 0 -1 1 shift -1 1 1;"), 2);
        clashes(about);
        DrillField three = Due.field(10, 10, 0, 11, 10, 0, 11, 11, 0);
        three.group(1, 1);
        three.group(2, 2);
        three.group(3, 4);
        Due.is("three in a ring", Due.runOf(three, "a: shift 1 0 1; b: shift 0 1 1; c: shift -1 -1 1;"), 1);
        clashes(three);
    }

    private static void clashAtEnds() {
        Due.says("a CLASH is at a COUNT of two MARCHERS on one SPOT");
        DrillField x = Due.field(10, 10, 0, 10, 10, 0, 30, 30, 0, 31, 30, 0);
        x.group(1, 0b0010);
        x.group(2, 0b0100);
        Due.is("at COUNT 0 and at the last", Due.runOf(x, "a: go 3; b: mark 2 shift 1 0 1;"), 3);
        clashes(x, new int[] {0, 0, 1}, new int[] {3, 2, 3});
        Due.is("who stays, too", Due.runOf(x, "b: shift 1 0 1 mark 1; a: go 1;"), 2);
        clashes(x, new int[] {0, 0, 1}, new int[] {1, 2, 3}, new int[] {2, 2, 3});
    }

    private static void clashNumbers() {
        Due.says("CLASHES are numbered by COUNTS, then by the lesser and the greater MARCHER.");
        DrillField x = Due.field(10, 10, 0, 20, 20, 0, 10, 10, 0, 20, 20, 0, 10, 10, 0);
        Due.is("run", Due.runOf(x, "a: mark 1;"), 1);
        clashes(x, new int[] {0, 0, 2}, new int[] {0, 0, 4}, new int[] {0, 1, 3}, new int[] {0, 2, 4},
                new int[] {1, 0, 2}, new int[] {1, 0, 4}, new int[] {1, 1, 3}, new int[] {1, 2, 4});
        DrillField full = new DrillField();
        for (int i = 0; i < 20; i++) {
            full.marcher(59, 39, 0);
        }
        full.group(1, (1 << 20) - 1);
        Due.is("run", Due.runOf(full, "a: mark 99 mark 51;"), 150);
        Due.fine(full, "told(0): 190 pairs at 151 COUNTS", full.told(0), 28690);
        Due.range(full, "clash", 0, 28689, 8, k -> full.clash(k, 0));
        Due.fine(full, "clash(28689, 0)", full.clash(28689, 0), 150);
        Due.fine(full, "clash(28689, 1)", full.clash(28689, 1), 18);
        Due.fine(full, "clash(28689, 2)", full.clash(28689, 2), 19);
    }

    private static void clashAsked() {
        Due.says("(5: what; 8: no RUN, no such CLASH)");
        DrillField x = Due.field(10, 10, 0, 10, 10, 0);
        Due.refused(x, "clash(0, 0): no RUN", x.clash(0, 0), 8);
        Due.refused(x, "clash(0, 3): 5 ahead of 8, no RUN", x.clash(0, 3), 5);
        Due.refused(x, "clash(0, -1): 5 ahead of 8, no RUN", x.clash(0, -1), 5);
        Due.is("run", Due.runOf(x, ""), 0);
        Due.range(x, "clash, what", 0, 2, 5, what -> x.clash(0, what));
        Due.range(x, "clash, k", 0, 0, 8, k -> x.clash(k, 0));
        Due.refused(x, "clash(1, 3): 5 ahead of 8, none such", x.clash(1, 3), 5);
        Due.refused(x, "clash(-1, -1): 5 ahead of 8, none such", x.clash(-1, -1), 5);
    }

    private static void hits() {
        Due.says("a HIT of one on a PROP");
        DrillField x = Due.field(10, 10, 2, 10, 10, 2, 20, 20, 0);
        Due.is("run", Due.runOf(x, "a: go 2;"), 2);
        Due.fine(x, "told(1): no PROPS", x.told(1), 0);
        x.prop(10, 10);
        Due.fine(x, "told(1): two at COUNT 0", x.told(1), 2);
        x.prop(12, 10);
        Due.fine(x, "told(1): two more at the last COUNT", x.told(1), 4);
        x.prop(13, 10);
        x.prop(10, 9);
        Due.fine(x, "told(1): none beside the way", x.told(1), 4);
        x.group(1, 0b001);
        Due.is("run", Due.runOf(x, "a: go 1;"), 1);
        Due.fine(x, "told(1): who stays is on it at each COUNT", x.told(1), 3);
        DrillField corner = Due.field(0, 0, 0, 59, 39, 0);
        corner.prop(0, 0);
        corner.prop(59, 39);
        Due.is("run", Due.runOf(corner, ""), 0);
        Due.fine(corner, "told(1) in the corners", corner.told(1), 2);
    }

    private static void longSteps() {
        Due.says("a LONG step of one from one COUNT to the next, if east and north, each squared, together are above LONG");
        DrillField x = Due.field(20, 20, 0, 30, 20, 0);
        x.group(2, 0b10);
        Due.is("run of no counts", Due.runOf(x, ""), 0);
        Due.fine(x, "told(2): there is no step to COUNT 0", x.told(2), 0);
        int[][] steps = {{1, 1, 2}, {2, 0, 4}, {0, -2, 4}, {-1, 2, 5}, {3, 4, 25}, {-5, -5, 50}, {7, 1, 50}, {1, 7, 50}};
        for (int[] s : steps) {
            Due.is("run", Due.runOf(x, "b: shift " + s[0] + " " + s[1] + " 1;"), 1);
            x.steps(s[2]);
            Due.fine(x, "told(2): a square of LONG is not above it", x.told(2), 0);
            x.steps(s[2] - 1);
            Due.fine(x, "told(2): a square of one more is", x.told(2), 1);
        }
        x.steps(2);
        Due.is("run", Due.runOf(x, "a: shift 2 0 1 mark 1 shift -2 0 1;"), 3);
        Due.fine(x, "told(2): both MARCHERS, first and last count", x.told(2), 4);
    }

    private static void greatestStep() {
        Due.says("4: the greatest square of a step");
        DrillField x = Due.field(0, 0, 0, 59, 39, 0);
        x.group(2, 0b10);
        Due.is("run", Due.runOf(x, ""), 0);
        Due.fine(x, "told(4) of no counts", x.told(4), 0);
        Due.is("run", Due.runOf(x, "a: halt 9;"), 9);
        Due.fine(x, "told(4) on the spot", x.told(4), 0);
        Due.is("run", Due.runOf(x, "b: shift -59 -39 1;"), 1);
        Due.fine(x, "told(4) over all the ground", x.told(4), 59 * 59 + 39 * 39);
        Due.is("run", Due.runOf(x, "b: mark 5 shift -1 -2 1;"), 6);
        Due.fine(x, "told(4) in the last count", x.told(4), 5);
        x.group(2, 0b01);
        Due.is("run", Due.runOf(x, "b: mark 5 shift 1 2 1;"), 6);
        Due.fine(x, "told(4) of MARCHER 0", x.told(4), 5);
    }

    private static void twentyIn150() {
        Due.says("MARCHERS, at most 20");
        DrillField x = new DrillField();
        for (int i = 0; i < 20; i++) {
            x.marcher(i, 20, 0);
        }
        x.group(1, (1 << 20) - 1);
        x.prop(0, 20);
        x.prop(19, 23);
        Due.is("run", Due.runOf(x, "a: mark 99 mark 49 shift 0 3 1 shift 0 -3 1;"), 150);
        Due.fine(x, "told(0)", x.told(0), 0);
        Due.fine(x, "told(1): MARCHER 0 at 150 COUNTS, MARCHER 19 at one", x.told(1), 151);
        Due.fine(x, "told(2): twenty, twice", x.told(2), 40);
        Due.fine(x, "told(4)", x.told(4), 9);
        Due.fine(x, "dressed(0, 150)", x.dressed(0, 150), 1);
        Due.fine(x, "like(0, 150)", x.like(0, 150), 0);
        Due.fine(x, "seen(150, 0, 40)", x.seen(150, 0, 40), 20);
        Due.is("run of a count", Due.runOf(x, "a: mark 1;"), 1);
        Due.fine(x, "told(4)", x.told(4), 0);
        Due.is("run of a count again", Due.runOf(x, "a: go 1;"), 1);
        Due.fine(x, "told(2)", x.told(2), 0);
        Due.fine(x, "told(4): what a longer RUN ahead did is none of it", x.told(4), 1);
    }

    private static void dressedAsked() {
        Due.says("Whether a GROUP is DRESSED at a COUNT: 1 or 0 (8; 2: one of it was not there, too; in this order).");
        DrillField x = Due.field(10, 10, 0, 12, 10, 0);
        Due.refused(x, "dressed(9, 9): 8 ahead of 2", x.dressed(9, 9), 8);
        Due.refused(x, "dressed(0, 0): no RUN", x.dressed(0, 0), 8);
        Due.is("run", Due.runOf(x, "a: go 2;"), 2);
        Due.range(x, "dressed of a GROUP", 0, 0, 2, g -> x.dressed(g, 0));
        Due.range(x, "dressed at a COUNT", 0, 2, 2, count -> x.dressed(0, count));
        Due.fine(x, "group b", x.group(2, 1), 1);
        Due.fine(x, "dressed(1, 0): a GROUP told since", x.dressed(1, 0), 1);
        x.marcher(30, 30, 0);
        x.group(2, 0b100);
        Due.refused(x, "dressed(1, 0): none of it was there", x.dressed(1, 0), 2);
        x.group(2, 0b101);
        Due.refused(x, "dressed(1, 0): one of it was not there", x.dressed(1, 0), 2);
        Due.fine(x, "run()", x.run(), 2);
        Due.fine(x, "dressed(1, 0): now it was", x.dressed(1, 0), 1);
    }

    private static void dressedWithFew() {
        Due.says("(two and fewer always)");
        DrillField x = Due.field(10, 10, 0, 59, 0, 0, 11, 30, 0);
        x.group(2, 0b001);
        x.group(3, 0b011);
        x.group(4, 0b101);
        Due.is("run", Due.runOf(x, ""), 0);
        Due.fine(x, "dressed(1, 0) of one", x.dressed(1, 0), 1);
        Due.fine(x, "dressed(2, 0) of two", x.dressed(2, 0), 1);
        Due.fine(x, "dressed(3, 0) of two", x.dressed(3, 0), 1);
        Due.fine(x, "dressed(0, 0) of three out of line", x.dressed(0, 0), 0);
    }

    private static void dressedEastAndNorth() {
        Due.says("if each one of it lies as far from the one ahead (by numbers), east and north each, as the second from the first");
        int[][] spots = {{10, 10, 12, 11, 14, 12, 1}, {10, 10, 12, 11, 15, 12, 0}, {10, 10, 12, 11, 14, 13, 0}, {10, 10, 12, 11, 13, 12, 0},
            {10, 10, 12, 11, 10, 10, 0}, {10, 10, 12, 11, 14, 10, 0}, {10, 10, 12, 11, 10, 12, 0}, {10, 10, 10, 10, 10, 10, 1},
            {10, 10, 10, 10, 10, 11, 0}, {10, 10, 11, 10, 11, 10, 0}, {10, 10, 8, 9, 6, 8, 1}, {0, 0, 29, 19, 58, 38, 1}};
        for (int[] s : spots) {
            DrillField x = Due.field(s[0], s[1], 0, s[2], s[3], 0, s[4], s[5], 0);
            Due.is("run", Due.runOf(x, ""), 0);
            Due.fine(x, "dressed(0, 0) with the third at " + s[4] + ", " + s[5], x.dressed(0, 0), s[6]);
        }
        DrillField full = new DrillField();
        for (int i = 0; i < 20; i++) {
            full.marcher(2 * i, i, 0);
        }
        full.group(1, (1 << 20) - 1);
        full.group(2, 1 << 19);
        Due.is("run", Due.runOf(full, "b: go 1;"), 1);
        Due.fine(full, "dressed(0, 0) of twenty", full.dressed(0, 0), 1);
        Due.fine(full, "dressed(0, 1): the last is out of line", full.dressed(0, 1), 0);
    }

    private static void dressedByNumbers() {
        Due.says("from the one ahead (by numbers)");
        DrillField x = Due.field(14, 10, 0, 50, 30, 0, 12, 10, 0, 13, 10, 0, 10, 10, 0);
        x.group(2, 0b10101);
        x.group(3, 0b11101);
        Due.is("run", Due.runOf(x, ""), 0);
        Due.fine(x, "dressed(1, 0): the ones between are not of it", x.dressed(1, 0), 1);
        Due.fine(x, "dressed(2, 0): a row, but not by numbers", x.dressed(2, 0), 0);
    }

    private static void likeAsked() {
        Due.says("LIKE: how the figure at a COUNT becomes that at another one (8; 2; then 8: in no way).");
        DrillField x = Due.field(10, 10, 0, 12, 10, 0, 12, 13, 0);
        Due.refused(x, "like(9, 9): 8 ahead of 2", x.like(9, 9), 8);
        Due.is("run", Due.runOf(x, "a: go 1;"), 1);
        Due.range(x, "like, the one", 0, 1, 2, count -> x.like(count, 0));
        Due.range(x, "like, the other", 0, 1, 2, other -> x.like(0, other));
        Due.is("run", Due.runOf(x, "a: go 1 open 2 1;"), 2);
        Due.refused(x, "like(0, 2): in no way", x.like(0, 2), 8);
        Due.refused(x, "like(2, 0): in no way", x.like(2, 0), 8);
        Due.fine(x, "like(2, 2): the last COUNT and itself", x.like(2, 2), 0);
        Due.refused(x, "like(2, 3): 2", x.like(2, 3), 2);
        Due.refused(x, "like(-1, 3): 2", x.like(-1, 3), 2);
    }

    private static void likeOfFew() {
        Due.says("LIKE are all MARCHERS at two COUNTS, by 0 to 7");
        DrillField none = still();
        Due.fine(none, "like(0, 0) of none", none.like(0, 0), 0);
        DrillField one = Due.field(0, 0, 1);
        Due.is("run", Due.runOf(one, "a: go 39 turn 1;"), 39);
        Due.fine(one, "like(0, 39) of one", one.like(0, 39), 0);
        Due.fine(one, "like(39, 0) of one", one.like(39, 0), 0);
        DrillField all = Due.field(10, 10, 0, 12, 10, 0);
        all.group(1, 0b01);
        Due.is("run", Due.runOf(all, "a: shift 1 0 1;"), 1);
        Due.refused(all, "like(0, 1): who is never led is one of all", all.like(0, 1), 8);
    }

    private static void likeLeast() {
        Due.says("0 as they are, 1 to 3 turned to the right by quarters (east, north become north, less east), "
                + "4 to 7 mirrored first (east the other way), then as 0 to 3: the least.");
        DrillField two = Due.field(20, 20, 0, 22, 20, 0);
        Due.is("run", Due.runOf(two, "a: wheel left 1 wheel left 1 wheel left 1 wheel left 1;"), 4);
        int[] want = {0, 1, 0, 1, 0};
        for (int count = 0; count <= 4; count++) {
            Due.fine(two, "like(0, " + count + ") of two", two.like(0, count), want[count]);
        }
        // A corner is its own mirror, turned: two of the eight ways bring it to each of its four.
        DrillField corner = Due.field(20, 20, 0, 21, 20, 0, 20, 21, 0);
        Due.is("run", Due.runOf(corner, "a: again 4 { wheel right 1 };"), 4);
        int[] turned = {0, 1, 2, 3, 0};
        for (int count = 0; count <= 4; count++) {
            Due.fine(corner, "like(0, " + count + ") of a corner", corner.like(0, count), turned[count]);
        }
        // Four that no turn and no mirror brings to themselves.
        int[][] shape = {{0, 0}, {1, 0}, {2, 0}, {0, 3}};
        for (int way = 0; way < 8; way++) {
            likeWay(shape, way);
        }
    }

    /** Each of the shape's MARCHERS goes, in one count, to where the way leads it, shifted. */
    private static void likeWay(int[][] shape, int way) {
        DrillField x = new DrillField();
        StringBuilder text = new StringBuilder();
        for (int i = 0; i < shape.length; i++) {
            x.marcher(20 + shape[i][0], 20 + shape[i][1], 0);
            x.group(i + 1, 1 << i);
            int east = way < 4 ? shape[i][0] : -shape[i][0];
            int north = shape[i][1];
            for (int quarter = 0; quarter < way % 4; quarter++) {
                int was = east;
                east = north;
                north = -was;
            }
            text.append((char) ('a' + i)).append(":shift ").append(east - shape[i][0] - 9).append(' ')
                    .append(north - shape[i][1] + 7).append(" 1;");
        }
        Due.is("run", Due.runOf(x, text.toString()), 1);
        Due.fine(x, "like(0, 1) by way " + way, x.like(0, 1), way);
        Due.fine(x, "like(1, 0) by way " + way, x.like(1, 0), way == 1 ? 3 : way == 3 ? 1 : way);
    }

    private static void likeNoWay() {
        Due.says("then 8: in no way");
        DrillField x = Due.field(20, 20, 0, 21, 20, 0, 22, 20, 0);
        x.group(1, 0b100);
        Due.is("run", Due.runOf(x, "a: go 1 shift 1 -1 1 shift -2 0 1;"), 3);
        Due.refused(x, "like(0, 1): one is out of line", x.like(0, 1), 8);
        Due.refused(x, "like(0, 2): one is a SPOT farther", x.like(0, 2), 8);
        Due.refused(x, "like(0, 3): one is on another's SPOT", x.like(0, 3), 8);
    }

    private static void likeOnOneSpot() {
        Due.says("the SPOTS at the one, moved so and then shifted, are those at the other, in any order");
        // Two on the west end become two on the east end: half a turn.
        DrillField x = Due.field(20, 20, 0, 20, 20, 0, 22, 20, 0);
        x.group(1, 0b010);
        Due.is("run", Due.runOf(x, "a: shift 2 0 1;"), 1);
        Due.fine(x, "like(0, 1)", x.like(0, 1), 2);
        // All on one SPOT and apart.
        DrillField y = Due.field(20, 20, 0, 20, 20, 0);
        y.group(1, 0b01);
        Due.is("run", Due.runOf(y, "a: go 1;"), 1);
        Due.refused(y, "like(0, 1)", y.like(0, 1), 8);
        Due.refused(y, "like(1, 0)", y.like(1, 0), 8);
        Due.fine(y, "like(0, 0)", y.like(0, 0), 0);
    }

    private static void likeAtTheEdges() {
        Due.says("the SPOTS at the one, moved so and then shifted, are those at the other, in any order");
        // As wide as the ground: half a turn and mirrors bring the corners to the corners.
        DrillField x = still(0, 0, 59, 0, 0, 39, 59, 39);
        Due.fine(x, "like(0, 0) of the corners", x.like(0, 0), 0);
        DrillField y = Due.field(0, 0, 0, 59, 39, 0, 1, 0, 0);
        y.group(2, 0b100);
        Due.is("run", Due.runOf(y, "b: shift 57 39 1;"), 1);
        Due.fine(y, "like(0, 1): half a turn of all the ground", y.like(0, 1), 2);
        // A row of all the width turned is wider than the ground is long: a figure all the same.
        DrillField z = Due.field(0, 0, 0, 39, 0, 0, 1, 0, 0);
        Due.is("run", Due.runOf(z, "a: wheel left 1;"), 1);
        Due.fine(z, "like(0, 1): as long as the ground", z.like(0, 1), 3);
        Due.fine(z, "like(1, 0)", z.like(1, 0), 1);
    }

    private static void seenAsked() {
        Due.says("SEEN at a COUNT by a JUDGE, east 0 to 59, north so many (1 to 40) below the ground");
        DrillField x = Due.field(10, 10, 0, 10, 12, 0);
        Due.refused(x, "seen(9, 60, 0): 8 first", x.seen(9, 60, 0), 8);
        Due.is("run", Due.runOf(x, "a: go 2;"), 2);
        Due.range(x, "seen at a COUNT", 0, 2, 2, count -> x.seen(count, 0, 1));
        Due.range(x, "seen from east", 0, 59, 5, east -> x.seen(0, east, 1));
        Due.range(x, "seen from below", 1, 40, 5, below -> x.seen(0, 0, below));
        Due.refused(x, "seen(3, 60, 0): 2 ahead of 5", x.seen(3, 60, 0), 2);
        Due.refused(x, "seen(-1, -1, 41): 2 ahead of 5", x.seen(-1, -1, 41), 2);
    }

    private static void seenFromEnds() {
        Due.says("SEEN at a COUNT by a JUDGE, east 0 to 59, north so many (1 to 40) below the ground");
        DrillField none = still();
        Due.fine(none, "seen of none", none.seen(0, 59, 40), 0);
        DrillField one = still(30, 20);
        Due.fine(one, "seen of one", one.seen(0, 0, 1), 1);
        DrillField corner = still(0, 5);
        Due.fine(corner, "seen of one, over an empty corner", corner.seen(0, 0, 1), 1);
        // A step of 1 by 1 from 0, 1 below: 0, 0 is no SPOT of it; from 0, 40 below: 1, -39 is none.
        DrillField west = still(1, 0, 2, 1, 3, 2, 39, 38);
        Due.fine(west, "seen(0, 0, 1): one way", west.seen(0, 0, 1), 1);
        Due.fine(west, "seen(0, 0, 2)", west.seen(0, 0, 2), 4);
        DrillField east = still(58, 0, 57, 1, 20, 38);
        Due.fine(east, "seen(0, 59, 1): one way", east.seen(0, 59, 1), 1);
        Due.fine(east, "seen(0, 58, 1)", east.seen(0, 58, 1), 3);
        // From 59, 40 below, to 0, 39: 59 by 79 has no SPOT between; to 0, 19: 59 by 59 has all.
        DrillField far = still(0, 39, 0, 19, 19, 0);
        Due.fine(far, "seen(0, 59, 40)", far.seen(0, 59, 40), 2);
        Due.fine(far, "seen(0, 59, 39)", far.seen(0, 59, 39), 3);
        DrillField file = still(59, 0, 59, 1, 59, 39);
        Due.fine(file, "seen(0, 59, 40) of a file", file.seen(0, 59, 40), 1);
        Due.fine(file, "seen(0, 0, 40) of a file", file.seen(0, 0, 40), 3);
    }

    private static void seenOnTheWay() {
        Due.says("MARCHERS whose SPOT no other one's SPOT lies on the straight way to");
        // From 10, 1 below: 12, 1 is half of the way to 14, 3.
        Due.is("half of the way", still(14, 3, 12, 1).seen(0, 10, 1), 1);
        Due.is("a third of the way", still(13, 5, 11, 1).seen(0, 10, 1), 1);
        Due.is("two thirds of the way", still(13, 5, 12, 3).seen(0, 10, 1), 1);
        Due.is("beside the way", still(14, 3, 12, 2).seen(0, 10, 1), 2);
        Due.is("as far on the other side", still(14, 3, 8, 1).seen(0, 10, 1), 2);
        Due.is("behind it", still(12, 1, 16, 5).seen(0, 10, 1), 1);
        Due.is("a rank hides none", still(10, 0, 11, 0, 12, 0, 9, 0).seen(0, 10, 1), 4);
        Due.is("three on one way: the nearest alone", still(12, 1, 14, 3, 16, 5).seen(0, 10, 1), 1);
        Due.is("one of two hides it", still(13, 2, 11, 0, 12, 0).seen(0, 10, 1), 2);
        // 3 by 4: between the JUDGE and it there is no SPOT at all.
        Due.is("no SPOT on the way", still(13, 3, 11, 0, 12, 1, 11, 1, 12, 2).seen(0, 10, 1), 4);
    }

    private static void seenOnOneSpot() {
        Due.says("(not counting their own; of two on one SPOT both may be SEEN)");
        Due.is("two on one SPOT", still(12, 1, 12, 1).seen(0, 10, 1), 2);
        Due.is("two behind one", still(14, 3, 14, 3, 12, 1).seen(0, 10, 1), 1);
        Due.is("one behind two", still(14, 3, 12, 1, 12, 1).seen(0, 10, 1), 2);
        DrillField all = new DrillField();
        for (int i = 0; i < 20; i++) {
            all.marcher(59, 39, 0);
        }
        Due.is("run", Due.runOf(all, ""), 0);
        Due.fine(all, "twenty on one SPOT", all.seen(0, 0, 1), 20);
    }
}
