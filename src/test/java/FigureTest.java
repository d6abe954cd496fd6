/** Promises 19 to 21: dressed, like, seen. */
public final class FigureTest {
    public static void main(String[] args) {
        dressed();
        like();
        likeWays();
        seen();
        Due.end("FigureTest");
    }

    private static DrillField field(int... spots) {
        DrillField x = new DrillField();
        for (int i = 0; i + 1 < spots.length; i += 2) {
            x.marcher(spots[i], spots[i + 1], 0);
        }
        return x;
    }

    private static void dressed() {
        DrillField x = field(10, 10, 20, 20, 12, 11, 14, 12, 16, 13, 12, 11);
        x.group(1, 0b011101);
        x.group(2, 0b011111);
        x.group(3, 0b000011);
        x.group(4, 0b000010);
        x.group(5, 0b100101);
        Due.refused(x, "dressed(9, 0): 8 first", x.dressed(9, 0), 8);
        Due.is("run", Due.runOf(x, "d: go 1 turn 4 go 1;"), 2);
        Due.fine(x, "dressed(0, 0): a row aslant", x.dressed(0, 0), 1);
        Due.fine(x, "dressed(1, 0): one is out of line", x.dressed(1, 0), 0);
        Due.fine(x, "dressed(2, 0): two always", x.dressed(2, 0), 1);
        Due.fine(x, "dressed(3, 0): one always", x.dressed(3, 0), 1);
        Due.fine(x, "dressed(4, 0): as far, but not that way", x.dressed(4, 0), 0);
        Due.refused(x, "dressed(5, 0)", x.dressed(5, 0), 2);
        Due.refused(x, "dressed(-1, 0)", x.dressed(-1, 0), 2);
        Due.refused(x, "dressed(0, 3)", x.dressed(0, 3), 2);
        Due.refused(x, "dressed(0, -1)", x.dressed(0, -1), 2);
        x.marcher(18, 14, 0);
        x.group(1, 0b1011101);
        Due.refused(x, "dressed(0, 0): one was not there", x.dressed(0, 0), 2);
        x.group(1, 0b0011101);
        Due.fine(x, "dressed(0, 0) told anew", x.dressed(0, 0), 1);
        DrillField y = field(10, 10, 12, 10, 10, 10);
        y.group(1, 7);
        Due.is("run", Due.runOf(y, ""), 0);
        Due.fine(y, "dressed(0, 0): to and fro", y.dressed(0, 0), 0);
        DrillField z = field(10, 10, 11, 10, 12, 10, 13, 10);
        z.group(1, 0b1111);
        z.group(2, 0b1000);
        Due.is("run", Due.runOf(z, "b: go 1;"), 1);
        Due.fine(z, "dressed(0, 0)", z.dressed(0, 0), 1);
        Due.fine(z, "dressed(0, 1): the last one left it", z.dressed(0, 1), 0);
    }

    private static void like() {
        DrillField x = field(10, 10, 11, 10, 10, 12);
        x.group(1, 7);
        Due.refused(x, "like(9, 9): 8 first", x.like(9, 9), 8);
        Due.is("run", Due.runOf(x, "a: shift 7 5 1 wheel left 1;"), 2);
        Due.refused(x, "like(3, 0)", x.like(3, 0), 2);
        Due.refused(x, "like(0, -1)", x.like(0, -1), 2);
        Due.fine(x, "like(0, 1): shifted", x.like(0, 1), 0);
        Due.fine(x, "like(0, 2): to the left is three quarters to the right", x.like(0, 2), 3);
        Due.fine(x, "like(2, 0)", x.like(2, 0), 1);
        DrillField y = field(10, 10, 11, 10, 11, 10, 12, 10);
        y.group(1, 8);
        y.group(2, 4);
        Due.is("run", Due.runOf(y, "a: mark 1 shift 0 1 1; b: shift -1 0 1 mark 1;"), 2);
        Due.fine(y, "like(0, 0)", y.like(0, 0), 0);
        Due.refused(y, "like(0, 1): on one SPOT the ends, not the midst", y.like(0, 1), 8);
        Due.refused(y, "like(0, 2)", y.like(0, 2), 8);
        Due.is("run of no MARCHERS", Due.runOf(new DrillField(), ""), 0);
        DrillField none = new DrillField();
        Due.is("run", Due.runOf(none, ""), 0);
        Due.fine(none, "like(0, 0) of none", none.like(0, 0), 0);
    }

    /** A figure with no likeness to itself, brought to each of its eight ways, by each in turn. */
    private static void likeWays() {
        for (int way = 0; way < 8; way++) {
            for (int next = 0; next < 4; next++) {
                likeWay(way, next);
            }
        }
    }

    /** MARCHER i goes to where the SPOT of the one so many behind it is moved. */
    private static void likeWay(int way, int next) {
        int[][] spots = {{0, 0}, {1, 0}, {2, 0}, {0, 5}};
        DrillField x = new DrillField();
        StringBuilder text = new StringBuilder();
        for (int i = 0; i < 4; i++) {
            x.marcher(20 + spots[i][0], 20 + spots[i][1], 0);
            x.group(i + 1, 1 << i);
            int[] spot = spots[(i + next) % 4];
            int east = way >= 4 ? -spot[0] : spot[0];
            int north = spot[1];
            for (int quarter = 0; quarter < way % 4; quarter++) {
                int old = east;
                east = north;
                north = -old;
            }
            text.append((char) ('a' + i)).append(": shift ").append(east - spots[i][0] + 2)
                    .append(' ').append(north - spots[i][1] - 3).append(" 1;");
        }
        Due.is("run", Due.runOf(x, text.toString()), 1);
        Due.fine(x, "like(0, 1) by way " + way, x.like(0, 1), way);
        int back = way == 1 ? 3 : way == 3 ? 1 : way;
        Due.fine(x, "like(1, 0) by way " + way, x.like(1, 0), back);
    }

    private static void seen() {
        DrillField x = field(10, 10, 10, 20, 20, 19, 30, 29, 10, 20, 5, 39);
        Due.refused(x, "seen(9, 99, 99): 8 first", x.seen(9, 99, 99), 8);
        Due.is("run", Due.runOf(x, ""), 0);
        Due.refused(x, "seen(1, 99, 99): 2 ahead of 5", x.seen(1, 99, 99), 2);
        Due.refused(x, "seen(0, -1, 1)", x.seen(0, -1, 1), 5);
        Due.refused(x, "seen(0, 60, 1)", x.seen(0, 60, 1), 5);
        Due.refused(x, "seen(0, 0, 0)", x.seen(0, 0, 0), 5);
        Due.refused(x, "seen(0, 0, 41)", x.seen(0, 0, 41), 5);
        Due.fine(x, "seen(0, 10, 40): those behind on one SPOT are hidden", x.seen(0, 10, 40), 4);
        // from 0, -1: (20, 20) and (30, 30) lie on a line, (10, 11), (10, 21) on none.
        Due.fine(x, "seen(0, 0, 1)", x.seen(0, 0, 1), 5);
        Due.fine(x, "seen(0, 59, 40): two on one SPOT are both seen", x.seen(0, 59, 40), 6);
        DrillField y = field(3, 4, 6, 9, 9, 14, 0, 14);
        Due.is("run", Due.runOf(y, ""), 0);
        // from 0, -1: 3 by 5, 6 by 10, 9 by 15 are one way.
        Due.fine(y, "seen(0, 0, 1)", y.seen(0, 0, 1), 2);
        Due.fine(y, "seen(0, 0, 2)", y.seen(0, 0, 2), 4);
        DrillField z = field(0, 0, 20, 0, 40, 0);
        Due.is("run", Due.runOf(z, ""), 0);
        Due.fine(z, "seen(0, 20, 1) of a rank", z.seen(0, 20, 1), 3);
        Due.fine(z, "seen(0, 0, 40) of a rank", z.seen(0, 0, 40), 3);
    }
}
