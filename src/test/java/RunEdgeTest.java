/** Boundary cases of the promises 14 to 16, each under the sentence of the document that names it. */
public final class RunEdgeTest {
    private static final int[] EAST = {0, 1, 1, 1, 0, -1, -1, -1};
    private static final int[] NORTH = {1, 1, 0, -1, -1, -1, 0, 1};

    public static void main(String[] args) {
        noText();
        emptyRuns();
        bodies();
        twentyInABody();
        groupsAsTheyWere();
        marchersThatCome();
        goAndBack();
        markAndHalt();
        follow();
        followOfOne();
        turns();
        turnsInNoCount();
        wheelFaces();
        wheelOfPivot();
        wheelsToAndFro();
        openAndClose();
        closeWhole();
        shifts();
        roundings();
        agains();
        done500();
        counts150();
        offTheGround();
        offInSomeCount();
        leastError();
        lineByLine();
        noRunWithError();
        lastCount();
        errorAsked();
        atAsked();
        feetAtFirst();
        feetByTurns();
        feetBehindHalt();
        feetOfEachLine();
        feetOfEachRun();
        Due.end("RunEdgeTest");
    }

    private static void notWell(String text, int want) {
        DrillField x = Due.field(20, 20, 0, 24, 24, 0);
        x.group(2, 2);
        Due.is("run of " + text, Due.runOf(x, text) < 0 ? -1 : 0, 0);
        Due.fine(x, "told(3) of " + text, x.told(3), want);
    }

    private static void noText() {
        Due.says("its last COUNT (8: no TEXT; 10).");
        DrillField x = Due.field(20, 20, 0);
        Due.refused(x, "run()", x.run(), 8);
        Due.feed(x, "a: go 1;");
        Due.refused(x, "run(): fed, not told", x.run(), 8);
        Due.fine(x, "orders(8)", x.orders(8), 1);
        Due.fine(x, "run()", x.run(), 1);
        Due.fine(x, "run() again", x.run(), 1);
        Due.is("orders", Due.tell(x, "a: go 20;"), 1);
        Due.refused(x, "run()", x.run(), 10);
    }

    private static void emptyRuns() {
        Due.says("A RUN: COUNTS 0 (where all begin) to the most of its LINES");
        DrillField none = new DrillField();
        Due.is("no MARCHERS, no LINES", Due.runOf(none, ""), 0);
        for (int what = 0; what < 5; what++) {
            Due.fine(none, "told(" + what + ")", none.told(what), 0);
        }
        Due.fine(none, "seen(0, 0, 1)", none.seen(0, 0, 1), 0);
        Due.fine(none, "like(0, 0)", none.like(0, 0), 0);
        Due.refused(none, "at(0, 0, 0)", none.at(0, 0, 0), 2);
        DrillField x = Due.field(20, 20, 3);
        Due.is("no LINES", Due.runOf(x, ""), 0);
        Due.place(x, 0, 0, 20, 20, 3);
        Due.refused(x, "at(1, 0, 0)", x.at(1, 0, 0), 2);
        Due.is("a LINE of no ORDERS", Due.runOf(x, "a:;"), 0);
        Due.place(x, 0, 0, 20, 20, 3);
    }

    private static void bodies() {
        Due.says("A LINE leads those of its GROUP that no LINE ahead of it leads: its BODY (by numbers; the first is the PIVOT).");
        DrillField x = Due.field(10, 10, 0, 12, 10, 0, 14, 10, 0);
        x.group(2, 0b001);
        x.group(3, 0b110);
        Due.is("all are led ahead", Due.runOf(x, "b: mark 1; c: mark 1; a: go 9 turn 2;"), 9);
        Due.place(x, 9, 0, 10, 10, 0);
        Due.place(x, 9, 2, 14, 10, 0);
        Due.is("a LINE of no ORDERS leads too", Due.runOf(x, "a:; b: go 1; c: go 2;"), 2);
        Due.place(x, 2, 0, 10, 10, 0);
        Due.place(x, 2, 2, 14, 10, 0);
        Due.is("the PIVOT is the first that is left", Due.runOf(x, "b:; a: wheel left 1;"), 1);
        Due.place(x, 1, 0, 10, 10, 0);
        Due.place(x, 1, 1, 12, 10, 6);
        Due.place(x, 1, 2, 12, 12, 6);
        Due.is("the first LINE leads all, by numbers", Due.runOf(x, "a: wheel left 1; c: go 5;"), 5);
        Due.place(x, 1, 0, 10, 10, 6);
        Due.place(x, 5, 2, 10, 14, 6);
        Due.is("a BODY of none is never off the ground", Due.runOf(x, "a:; c: go 50 back 40 follow 49 close 5 9 shift 59 59 1;"), 149);
        Due.is("a BODY of none leads none", Due.runOf(x, "a:; c: follow 1 wheel left 1 open 5 1 turn 1 go 1 follow 1;"), 5);
        for (int count = 0; count <= 5; count++) {
            for (int marcher = 0; marcher < 3; marcher++) {
                Due.place(x, count, marcher, 10 + 2 * marcher, 10, 0);
            }
        }
    }

    private static void twentyInABody() {
        Due.says("its BODY (by numbers; the first is the PIVOT)");
        DrillField x = new DrillField();
        for (int i = 0; i < 20; i++) {
            x.marcher(20 + i, 0, 2);
        }
        x.group(1, (1 << 20) - 1);
        Due.is("run", Due.runOf(x, "a: wheel left 20;"), 20);
        Due.place(x, 20, 0, 20, 0, 0);
        Due.place(x, 20, 19, 20, 19, 0);
        Due.place(x, 10, 19, 30, 10, 2);
        Due.is("run", Due.runOf(x, "a: open 2 1 close 2 1 shift 0 9 1;"), 3);
        Due.place(x, 1, 0, 20, 0, 2);
        Due.place(x, 1, 19, 58, 0, 2);
        Due.place(x, 2, 19, 39, 0, 2);
        Due.place(x, 3, 0, 20, 9, 2);
        Due.place(x, 3, 19, 39, 9, 2);
        Due.error(x, "a: shift 0 18 1 wheel right 1;", 4, 16);
        Due.error(x, "a: shift 0 19 1 wheel right 1;", 0, -1);
        Due.is("run", Due.runOf(x, "a: follow 20;"), 20);
        Due.place(x, 20, 0, 40, 0, 2);
        Due.place(x, 20, 19, 21, 0, 2);
    }

    private static void groupsAsTheyWere() {
        Due.says("by GROUPS as they were when the TEXT was told");
        DrillField x = Due.field(10, 10, 0, 20, 10, 0);
        x.group(1, 1);
        Due.fine(x, "orders", Due.tell(x, "a: go 1;"), 1);
        x.group(1, 2);
        Due.fine(x, "run()", x.run(), 1);
        Due.place(x, 1, 0, 10, 11, 0);
        Due.place(x, 1, 1, 20, 10, 0);
        Due.fine(x, "orders: told again", Due.tell(x, "a: go 1;"), 1);
        Due.fine(x, "run()", x.run(), 1);
        Due.place(x, 1, 0, 10, 10, 0);
        Due.place(x, 1, 1, 20, 11, 0);
    }

    private static void marchersThatCome() {
        Due.says("A RUN of all MARCHERS from where they begin");
        DrillField x = Due.field(10, 10, 0);
        Due.is("run", Due.runOf(x, "a: go 2;"), 2);
        x.marcher(30, 30, 5);
        Due.refused(x, "at(0, 1, 0): a MARCHER that was not there", x.at(0, 1, 0), 2);
        Due.fine(x, "run()", x.run(), 2);
        Due.place(x, 0, 1, 30, 30, 5);
        Due.place(x, 2, 1, 30, 30, 5);
        Due.place(x, 2, 0, 10, 12, 0);
        Due.fine(x, "run() again, from where they begin", x.run(), 2);
        Due.place(x, 2, 0, 10, 12, 0);
    }

    private static void goAndBack() {
        Due.says("go n: n counts, in each a step ahead. back: a step against the FACE.");
        for (int face = 0; face < 8; face++) {
            DrillField x = Due.field(20, 20, face);
            Due.is("run", Due.runOf(x, "a: go 1 back 2;"), 3);
            Due.place(x, 0, 0, 20, 20, face);
            Due.place(x, 1, 0, 20 + EAST[face], 20 + NORTH[face], face);
            Due.place(x, 2, 0, 20, 20, face);
            Due.place(x, 3, 0, 20 - EAST[face], 20 - NORTH[face], face);
        }
        DrillField wide = Due.field(0, 5, 2);
        Due.is("from edge to edge and back", Due.runOf(wide, "a: go 59 back 59;"), 118);
        Due.place(wide, 59, 0, 59, 5, 2);
        Due.place(wide, 118, 0, 0, 5, 2);
    }

    private static void markAndHalt() {
        Due.says("mark, halt: n counts on the spot.");
        DrillField x = Due.field(0, 0, 5);
        Due.is("run", Due.runOf(x, "a: mark 1;"), 1);
        Due.place(x, 1, 0, 0, 0, 5);
        Due.is("run", Due.runOf(x, "a: mark 99;"), 99);
        Due.place(x, 99, 0, 0, 0, 5);
        Due.is("run", Due.runOf(x, "a: halt 1;"), 1);
        Due.place(x, 1, 0, 0, 0, 5);
        Due.is("run", Due.runOf(x, "a: halt 99;"), 99);
        Due.place(x, 99, 0, 0, 0, 5);
    }

    private static void follow() {
        Due.says("each other one to the SPOT, and with the FACE, that the one ahead of it in the BODY had a count sooner");
        DrillField x = Due.field(10, 10, 2, 59, 39, 1, 0, 0, 5);
        x.group(2, 0b101);
        Due.is("run", Due.runOf(x, "a: follow 3;"), 3);
        Due.place(x, 1, 0, 11, 10, 2);
        Due.place(x, 1, 1, 10, 10, 2);
        Due.place(x, 1, 2, 59, 39, 1);
        Due.place(x, 2, 2, 10, 10, 2);
        Due.place(x, 3, 2, 11, 10, 2);
        Due.is("the one ahead in the BODY, not by numbers", Due.runOf(x, "b: turn 1 follow 1;"), 1);
        Due.place(x, 1, 0, 11, 9, 3);
        Due.place(x, 1, 2, 10, 10, 3);
        Due.place(x, 1, 1, 59, 39, 1);
        Due.is("behind a turn: the FACE told with that COUNT", Due.runOf(x, "a: mark 1 turn 4 follow 1;"), 2);
        Due.place(x, 1, 1, 59, 39, 5);
        Due.place(x, 2, 0, 9, 10, 6);
        Due.place(x, 2, 1, 10, 10, 6);
        Due.place(x, 2, 2, 59, 39, 5);
    }

    private static void followOfOne() {
        Due.says("follow n: in each count the PIVOT a step ahead");
        DrillField x = Due.field(0, 0, 1);
        Due.is("run", Due.runOf(x, "a: follow 39;"), 39);
        Due.place(x, 39, 0, 39, 39, 1);
        Due.error(x, "a: follow 40;", 4, 3);
    }

    private static void turns() {
        Due.says("turn n: n eighths to the right, in no count");
        for (int face = 0; face < 8; face++) {
            DrillField x = Due.field(20, 20, face);
            for (int n = 1; n <= 7; n++) {
                Due.is("run", Due.runOf(x, "a: turn " + n + " go 1;"), 1);
                int now = (face + n) % 8;
                Due.place(x, 0, 0, 20, 20, now);
                Due.place(x, 1, 0, 20 + EAST[now], 20 + NORTH[now], now);
            }
        }
    }

    private static void turnsInNoCount() {
        Due.says("(told with the COUNT behind which it is; at the beginning with COUNT 0)");
        DrillField x = Due.field(20, 20, 6);
        Due.is("run", Due.runOf(x, "a: turn 1 go 1 turn 1 turn 1 go 1 turn 7;"), 2);
        Due.place(x, 0, 0, 20, 20, 7);
        Due.place(x, 1, 0, 19, 21, 1);
        Due.place(x, 2, 0, 20, 22, 0);
        Due.is("turns alone", Due.runOf(x, "a: turn 1 turn 1 turn 1;"), 0);
        Due.place(x, 0, 0, 20, 20, 1);
        Due.is("turns about and about", Due.runOf(x, "a: again 20 { turn 7 };"), 0);
        Due.place(x, 0, 0, 20, 20, 2);
        Due.fine(x, "run() again: they begin with their own FACE", x.run(), 0);
        Due.place(x, 0, 0, 20, 20, 2);
    }

    private static void wheelFaces() {
        Due.says("and at its end with the FACE turned by 2 eighths as well");
        for (int face = 0; face < 8; face++) {
            DrillField x = Due.field(20, 20, face, 21, 20, 7 - face);
            Due.is("run", Due.runOf(x, "a: wheel left 2;"), 2);
            Due.place(x, 1, 0, 20, 20, face);
            Due.place(x, 2, 0, 20, 20, (face + 6) % 8);
            Due.place(x, 2, 1, 20, 21, (7 - face + 6) % 8);
            Due.is("run", Due.runOf(x, "a: wheel right 2;"), 2);
            Due.place(x, 1, 0, 20, 20, face);
            Due.place(x, 2, 0, 20, 20, (face + 2) % 8);
            Due.place(x, 2, 1, 20, 19, (7 - face + 2) % 8);
        }
    }

    private static void wheelOfPivot() {
        Due.says("wheel: in n counts to where a quarter turn about the PIVOT's SPOT leads");
        DrillField x = Due.field(0, 0, 0);
        Due.is("the PIVOT alone, in a corner", Due.runOf(x, "a: wheel left 1 wheel right 99;"), 100);
        Due.place(x, 1, 0, 0, 0, 6);
        Due.place(x, 99, 0, 0, 0, 6);
        Due.place(x, 100, 0, 0, 0, 0);
        DrillField y = Due.field(30, 20, 0, 30, 20, 4);
        Due.is("one on the PIVOT's SPOT", Due.runOf(y, "a: wheel left 3;"), 3);
        Due.place(y, 3, 1, 30, 20, 2);
    }

    private static void wheelsToAndFro() {
        Due.says("(left: against the clock)");
        DrillField x = Due.field(30, 20, 0, 33, 21, 0);
        Due.is("four to the left", Due.runOf(x, "a: again 4 { wheel left 1 };"), 4);
        int[][] left = {{33, 21}, {29, 23}, {27, 19}, {31, 17}, {33, 21}};
        for (int count = 0; count <= 4; count++) {
            Due.place(x, count, 1, left[count][0], left[count][1], (8 - 2 * count) % 8);
        }
        Due.is("four to the right", Due.runOf(x, "a: again 4 { wheel right 1 };"), 4);
        for (int count = 0; count <= 4; count++) {
            Due.place(x, count, 1, left[4 - count][0], left[4 - count][1], 2 * count % 8);
        }
    }

    private static void openAndClose() {
        Due.says("open k n: in n counts to k times as far from the PIVOT, east and north each. close k n: to a k-th of that");
        for (int k = 2; k <= 5; k++) {
            DrillField x = Due.field(30, 20, 0, 29, 22, 3);
            Due.is("run", Due.runOf(x, "a: open " + k + " 1 close " + k + " 1;"), 2);
            Due.place(x, 1, 0, 30, 20, 0);
            Due.place(x, 1, 1, 30 - k, 20 + 2 * k, 3);
            Due.place(x, 2, 1, 29, 22, 3);
            DrillField first = Due.field(30, 20, 0, 30 - k, 20 + 2 * k, 3);
            Due.is("run", Due.runOf(first, "a: close " + k + " 1;"), 1);
            Due.place(first, 1, 0, 30, 20, 0);
            Due.place(first, 1, 1, 29, 22, 3);
        }
        DrillField y = Due.field(10, 10, 0, 10, 10, 0);
        Due.is("none from the PIVOT stays none", Due.runOf(y, "a: open 5 99 close 5 51;"), 150);
        Due.place(y, 150, 1, 10, 10, 0);
    }

    private static void closeWhole() {
        Due.says("close k n: to a k-th of that; it must be whole");
        for (int k = 2; k <= 5; k++) {
            for (int east = -6; east <= 6; east++) {
                DrillField x = Due.field(30, 20, 0, 30 + east, 20, 0);
                Due.error(x, "a: close " + k + " 1;", east % k == 0 ? 0 : 3, east % k == 0 ? -1 : 3);
                DrillField y = Due.field(30, 20, 0, 30, 20 + east, 0);
                Due.error(y, "a: close " + k + " 1;", east % k == 0 ? 0 : 3, east % k == 0 ? -1 : 3);
            }
        }
        DrillField last = Due.field(30, 20, 0, 32, 22, 0, 28, 18, 0, 34, 21, 0);
        Due.error(last, "a: close 2 1;", 3, 3);
        last.group(1, 0b0111);
        Due.error(last, "a: close 2 1;", 0, -1);
        DrillField edges = Due.field(0, 0, 0, 55, 35, 0);
        Due.is("from edge to edge", Due.runOf(edges, "a: close 5 1;"), 1);
        Due.place(edges, 1, 1, 11, 7, 0);
    }

    private static void shifts() {
        Due.says("shift e n c: in c counts e east and n north of where one is (below 0: the other way)");
        DrillField x = Due.field(30, 20, 3);
        Due.is("none", Due.runOf(x, "a: shift 0 0 1 shift -0 -0 1;"), 2);
        Due.place(x, 2, 0, 30, 20, 3);
        Due.is("both below", Due.runOf(x, "a: shift -30 -20 1;"), 1);
        Due.place(x, 1, 0, 0, 0, 3);
        Due.is("both above", Due.runOf(x, "a: shift 29 19 1;"), 1);
        Due.place(x, 1, 0, 59, 39, 3);
        Due.is("one each", Due.runOf(x, "a: shift -30 19 1;"), 1);
        Due.place(x, 1, 0, 0, 39, 3);
        DrillField y = Due.field(0, 39, 0);
        Due.is("all the way", Due.runOf(y, "a: shift 59 -39 1 shift -59 39 99;"), 100);
        Due.place(y, 1, 0, 59, 0, 0);
        Due.place(y, 100, 0, 0, 39, 0);
        Due.is("more counts than SPOTS", Due.runOf(y, "a: shift 1 0 99;"), 99);
        Due.place(y, 49, 0, 0, 39, 0);
        Due.place(y, 50, 0, 1, 39, 0);
    }

    private static void roundings() {
        Due.says("rounded to the nearest whole number (a half up)");
        DrillField x = Due.field(30, 20, 0);
        Due.is("halves", Due.runOf(x, "a: shift 1 -1 2;"), 2);
        Due.place(x, 1, 0, 31, 20, 0);
        Due.is("halves of three", Due.runOf(x, "a: shift 3 -3 2;"), 2);
        Due.place(x, 1, 0, 32, 19, 0);
        Due.is("quarters", Due.runOf(x, "a: shift 1 -1 4;"), 4);
        int[][] quarters = {{30, 20}, {30, 20}, {31, 20}, {31, 19}, {31, 19}};
        for (int j = 0; j <= 4; j++) {
            Due.place(x, j, 0, quarters[j][0], quarters[j][1], 0);
        }
        Due.is("sevenths", Due.runOf(x, "a: shift -5 5 7;"), 7);
        // 5/7 0.71, 1.43, 2.14, 2.86, 3.57, 4.29
        int[] sevenths = {0, 1, 1, 2, 3, 4, 4, 5};
        for (int j = 0; j <= 7; j++) {
            Due.place(x, j, 0, 30 - sevenths[j], 20 + sevenths[j], 0);
        }
        DrillField y = Due.field(30, 20, 0, 31, 21, 0, 29, 19, 0);
        Due.is("open by halves", Due.runOf(y, "a: open 2 2 close 2 2;"), 4);
        Due.place(y, 1, 1, 32, 22, 0);
        Due.place(y, 1, 2, 29, 19, 0);
        Due.place(y, 3, 1, 32, 22, 0);
        Due.place(y, 3, 2, 29, 19, 0);
        Due.place(y, 4, 2, 29, 19, 0);
        DrillField z = Due.field(30, 20, 0, 31, 20, 0);
        Due.is("wheel by halves", Due.runOf(z, "a: wheel left 2;"), 2);
        Due.place(z, 1, 1, 31, 21, 0);
        Due.is("wheel by halves", Due.runOf(z, "a: wheel right 2;"), 2);
        Due.place(z, 1, 1, 31, 20, 0);
    }

    private static void agains() {
        Due.says("or again NUMBER { {ORDER} }");
        DrillField x = Due.field(0, 0, 2);
        Due.is("twice", Due.runOf(x, "a: again 2 { go 1 };"), 2);
        Due.is("twenty times", Due.runOf(x, "a: again 20 { go 1 };"), 20);
        Due.place(x, 20, 0, 20, 0, 2);
        Due.is("none, twenty times", Due.runOf(x, "a: again 20 { } go 1;"), 1);
        Due.is("2 x 3 x 4", Due.runOf(x, "a: again 2 { again 3 { again 4 { go 1 } } };"), 24);
        Due.place(x, 24, 0, 24, 0, 2);
        Due.is("what is behind within", Due.runOf(x, "a: again 2 { again 2 { again 2 { go 1 } mark 1 } mark 1 } mark 1;"), 15);
        Due.place(x, 15, 0, 8, 0, 2);
        Due.place(x, 7, 0, 4, 0, 2);
    }

    private static void done500() {
        Due.says("1 the 501st ORDER done in a LINE (each again counts, and what is in it as often as it is done).");
        // 1 + 20 x 24 are 481; again 18 of one ORDER is 19: 500.
        String most = "a: again 20 { again 11 { turn 1 turn 1 } turn 1 } again 18 { turn 1 }";
        DrillField x = Due.field(20, 20, 0);
        Due.error(x, most + ";", 0, -1);
        Due.error(x, most + " turn 1;", 1, most.length() + 1);
        Due.error(x, most + " go 1;", 1, most.length() + 1);
        Due.error(x, most + " again 2 { };", 1, most.length() + 1);
        Due.error(x, most.replace("again 18", "again 19") + ";", 1, most.length() - 8);
        // 1 + 19 x 25 are 476; an again and eleven times two: 499, twelve times two: 501.
        String within = "a: again 19 { again 12 { turn 1 turn 1 } } again 11 { turn 1 turn 1 }";
        Due.error(x, within + ";", 0, -1);
        Due.error(x, within + " turn 1;", 0, -1);
        Due.error(x, within + " turn 1 turn 1;", 1, within.length() + 8);
        Due.error(x, within.replace("again 11", "again 12") + ";", 1, within.length() - 8);
        // 1 + 20 + 20 x 20 + 79 are 500: empty ones are done too.
        String empty = "a: again 20 { again 20 { again 2 { } } } again 20 { turn 1 turn 1 turn 1 }";
        Due.error(x, empty + " again 17 { turn 1 };", 0, -1);
        Due.error(x, empty + " again 18 { turn 1 };", 1, empty.length() + 12);
        // 1 + 20 x (21 + 3) and 19: as many agains as can be, each done twenty times.
        String agains = "a: again 20 { again 20 { again 20 { } } again 20 { } again 20 { } again 20 { } }" + " again 20 { }".repeat(18);
        Due.error(x, agains + " go 1;", 0, -1);
        Due.place(x, 1, 0, 20, 21, 0);
        Due.error(x, agains + " again 20 { };", 0, -1);
        Due.error(x, agains + " again 20 { } go 1;", 1, agains.length() + 14);
        x.group(2, 1);
        Due.error(x, most + "; b: turn 1;", 0, -1);
        Due.error(x, "b: turn 1; " + most + ";", 0, -1);
        Due.error(x, "b: turn 1; " + most + " turn 1;", 1, most.length() + 12);
    }

    private static void counts150() {
        Due.says("2 more than 150 counts in a LINE.");
        DrillField x = Due.field(20, 20, 0);
        x.group(2, 1);
        Due.error(x, "a: mark 99 mark 51;", 0, -1);
        Due.fine(x, "at(150, 0, 0)", x.at(150, 0, 0), 20);
        Due.refused(x, "at(151, 0, 0)", x.at(151, 0, 0), 2);
        Due.error(x, "a: mark 99 mark 52;", 2, 11);
        Due.error(x, "a: mark 99 mark 51 mark 1;", 2, 19);
        Due.error(x, "a: mark 99 mark 51 turn 1 again 2 { };", 0, -1);
        Due.error(x, "a: again 15 { mark 10 };", 0, -1);
        Due.error(x, "a: again 16 { mark 10 };", 2, 14);
        Due.error(x, "a: mark 99 mark 51; b: mark 99 mark 51;", 0, -1);
        Due.error(x, "a: mark 99 mark 51; b: mark 99 mark 52;", 2, 31);
        String[] others = {"go 1", "back 1", "halt 1", "follow 1", "wheel left 1", "open 2 1", "close 2 1", "shift 0 0 1"};
        for (String other : others) {
            Due.error(x, "a: mark 99 mark 50 " + other + ";", 0, -1);
            Due.error(x, "a: mark 99 mark 51 " + other + ";", 2, 19);
        }
    }

    private static void offTheGround() {
        Due.says("4 one off the ground in some count of it.");
        for (int face = 0; face < 8; face++) {
            int east = 30;
            int north = 20;
            int steps = 0;
            while (east + EAST[face] >= 0 && east + EAST[face] < 60 && north + NORTH[face] >= 0 && north + NORTH[face] < 40) {
                east += EAST[face];
                north += NORTH[face];
                steps++;
            }
            DrillField x = Due.field(30, 20, face);
            DrillField y = Due.field(30, 20, (face + 4) % 8);
            Due.error(x, "a: go " + steps + ";", 0, -1);
            Due.place(x, steps, 0, east, north, face);
            Due.error(x, "a: go " + (steps + 1) + ";", 4, 3);
            Due.error(x, "a: follow " + steps + ";", 0, -1);
            Due.error(x, "a: follow " + (steps + 1) + ";", 4, 3);
            Due.error(y, "a: back " + steps + ";", 0, -1);
            Due.error(y, "a: back " + (steps + 1) + ";", 4, 3);
        }
        Object[][] shifts = {{"29 0", 0}, {"30 0", 4}, {"-30 0", 0}, {"-31 0", 4}, {"0 19", 0}, {"0 20", 4}, {"0 -20", 0}, {"0 -21", 4}};
        for (Object[] shift : shifts) {
            int kind = (Integer) shift[1];
            Due.error(Due.field(30, 20, 0), "a: shift " + shift[0] + " 1;", kind, kind == 0 ? -1 : 3);
        }
        Due.error(Due.field(10, 10, 0, 10, 0, 0), "a: wheel right 1;", 0, -1);
        Due.error(Due.field(9, 10, 0, 9, 0, 0), "a: wheel right 1;", 4, 3);
        Due.error(Due.field(49, 10, 0, 49, 0, 0), "a: wheel left 1;", 0, -1);
        Due.error(Due.field(50, 10, 0, 50, 0, 0), "a: wheel left 1;", 4, 3);
        Due.error(Due.field(30, 20, 0, 44, 20, 0), "a: open 2 1;", 0, -1);
        Due.error(Due.field(30, 20, 0, 45, 20, 0), "a: open 2 1;", 4, 3);
        Due.error(Due.field(30, 20, 0, 15, 20, 0), "a: open 2 1;", 0, -1);
        Due.error(Due.field(30, 20, 0, 14, 20, 0), "a: open 2 1;", 4, 3);
        Due.error(Due.field(0, 0, 0, 59, 39, 0), "a: open 5 1;", 4, 3);
    }

    private static void offInSomeCount() {
        Due.says("4 one off the ground in some count of it.");
        DrillField x = Due.field(20, 38, 0, 20, 20, 0, 20, 39, 4);
        Due.error(x, "a: mark 5 go 1;", 0, -1);
        Due.error(x, "a: mark 5 go 2;", 4, 10);
        Due.error(x, "a: go 99;", 4, 3);
        x.group(2, 0b010);
        Due.error(x, "b: go 19; a: go 1;", 0, -1);
        Due.error(x, "b: go 20; a: go 1;", 4, 3);
        // Only the PIVOT steps off: those behind it go to SPOTS that are on the ground.
        Due.error(x, "a: follow 1;", 0, -1);
        Due.error(x, "a: follow 2;", 4, 3);
        Due.error(x, "a: go 1 turn 4 go 2;", 4, 15);
        // The half of the way that is rounded to the edge is on it; the end is off.
        DrillField y = Due.field(58, 20, 0);
        Due.error(y, "a: shift 2 0 99;", 4, 3);
        Due.error(y, "a: shift 1 0 99;", 0, -1);
        Due.error(y, "a: again 2 { shift 1 0 1 };", 4, 13);
    }

    private static void leastError() {
        Due.says("ERRORS, at the first ORDER, LINE by LINE, that has one (of one the least)");
        String most = "a: again 20 { again 11 { turn 1 turn 1 } turn 1 } again 17 { turn 1 }";
        DrillField x = Due.field(20, 20, 0, 23, 20, 0);
        // 499 are done, with FACE 5 at their end: the mark is the 500th, the next one the 501st.
        Due.error(x, most + " mark 99 mark 99;", 1, most.length() + 9);
        Due.error(x, most + " mark 99 go 21;", 1, most.length() + 9);
        Due.error(x, most + " mark 99 close 2 1;", 1, most.length() + 9);
        Due.error(x, most + " go 21;", 4, most.length() + 1);
        Due.error(x, most + " close 2 1;", 3, most.length() + 1);
        Due.error(x, "a: mark 99 close 2 52;", 2, 11);
        Due.error(x, "a: mark 99 close 2 51;", 3, 11);
        Due.error(x, "a: mark 99 go 52;", 2, 11);
        Due.error(x, "a: mark 99 go 51;", 4, 11);
        Due.error(x, "a: mark 99 shift 59 59 52;", 2, 11);
        Due.error(x, "a: mark 99 shift 59 59 51;", 4, 11);
    }

    private static void lineByLine() {
        Due.says("ERRORS, at the first ORDER, LINE by LINE, that has one");
        DrillField x = Due.field(20, 20, 0, 23, 20, 0);
        x.group(2, 0b10);
        Due.error(x, "b: mark 99 go 20; a: go 20;", 4, 11);
        Due.error(x, "b: mark 99 go 19; a: go 20;", 4, 21);
        Due.error(x, "a: go 5 close 2 1 go 99 go 99;", 3, 8);
        Due.error(x, "b: close 2 1; a: close 2 1;", 0, -1);
        Due.error(x, "a:; b: close 2 1 go 99;", 0, -1);
        Due.error(x, "a:; b: mark 99 mark 99;", 2, 15);
    }

    private static void noRunWithError() {
        Due.says("With an ERROR there is no RUN (that ahead stays).");
        DrillField x = Due.field(20, 20, 0, 20, 22, 4);
        Due.is("orders", Due.tell(x, "a: go 99;"), 1);
        Due.refused(x, "run()", x.run(), 10);
        Due.refused(x, "told(0): no RUN", x.told(0), 8);
        Due.refused(x, "at(0, 0, 0): no RUN", x.at(0, 0, 0), 8);
        Due.refused(x, "clash(0, 0): no RUN", x.clash(0, 0), 8);
        Due.is("run", Due.runOf(x, "a: mark 1 turn 7 go 2;"), 3);
        int[] told = new int[5];
        for (int what = 0; what < 5; what++) {
            told[what] = x.told(what);
        }
        Due.is("told(3)", told[3], 1);
        String[] wrong = {"a: turn 1 go 99;", "a: mark 99 mark 52;", "a: mark 2 turn 1 turn 1 close 5 1;"};
        for (String text : wrong) {
            Due.tell(x, text);
            Due.refused(x, "run() of " + text, x.run(), 10);
            for (int what = 0; what < 5; what++) {
                Due.fine(x, "told(" + what + ")", x.told(what), told[what]);
            }
            Due.place(x, 0, 0, 20, 20, 0);
            Due.place(x, 1, 0, 20, 20, 7);
            Due.place(x, 3, 0, 18, 22, 7);
            Due.refused(x, "at(4, 0, 0)", x.at(4, 0, 0), 2);
        }
    }

    private static void lastCount() {
        Due.says("to the most of its LINES; who is led no more (or never) stays");
        DrillField x = Due.field(10, 10, 0, 20, 10, 0, 30, 10, 2);
        x.group(2, 1);
        x.group(3, 2);
        Due.is("the first is the longer", Due.runOf(x, "b: go 3; c: go 1 turn 1;"), 3);
        Due.place(x, 1, 1, 20, 11, 1);
        Due.place(x, 3, 1, 20, 11, 1);
        Due.place(x, 3, 2, 30, 10, 2);
        Due.is("the last is the longer", Due.runOf(x, "b: go 1 turn 1; c: go 3;"), 3);
        Due.place(x, 1, 0, 10, 11, 1);
        Due.place(x, 2, 0, 10, 11, 1);
        Due.place(x, 3, 0, 10, 11, 1);
        Due.is("150 beside none", Due.runOf(x, "b: turn 1; c: mark 99 mark 51;"), 150);
        Due.place(x, 150, 0, 10, 10, 1);
        Due.is("a shorter one behind a longer", Due.runOf(x, "c: go 1;"), 1);
        Due.refused(x, "at(2, 0, 0)", x.at(2, 0, 0), 2);
        Due.place(x, 1, 0, 10, 10, 0);
    }

    private static void errorAsked() {
        Due.says("Of the latest run() with STATUS 0 or 10, what 0: the ERROR (0 without one), 1: the place of the ORDER's first byte "
                + "(NONE without). NONE for others, and ahead of any.");
        DrillField x = Due.field(20, 20, 0);
        int[] others = {-1, 2, 3, Integer.MIN_VALUE, Integer.MAX_VALUE};
        Due.is("error(0) ahead of any", x.error(0), -1);
        Due.is("error(1) ahead of any", x.error(1), -1);
        Due.refused(x, "run()", x.run(), 8);
        Due.is("error(0) ahead of any but a refused one", x.error(0), -1);
        Due.is("error(1) ahead of any but a refused one", x.error(1), -1);
        Due.error(x, " a:\n go 20;", 4, 5);
        for (int what : others) {
            Due.is("error(" + what + ")", x.error(what), -1);
        }
        Due.tell(x, "a: go 1;");
        Due.is("error(0) behind orders()", x.error(0), 4);
        Due.fine(x, "run()", x.run(), 1);
        Due.is("error(0)", x.error(0), 0);
        Due.is("error(1)", x.error(1), -1);
        for (int what : others) {
            Due.is("error(" + what + ")", x.error(what), -1);
        }
        Due.tell(x, "a: go 30;");
        Due.is("error(0) behind orders()", x.error(0), 0);
    }

    private static void atAsked() {
        Due.says("(2: COUNT, a MARCHER that was not there, too; 5; 8; in the order 8, 2, 5)");
        DrillField x = Due.field(20, 20, 0, 21, 20, 0);
        Due.refused(x, "at(-1, -1, -1): 8", x.at(-1, -1, -1), 8);
        Due.refused(x, "at(0, 0, 3): 8", x.at(0, 0, 3), 8);
        Due.is("run", Due.runOf(x, "a: go 3;"), 3);
        Due.range(x, "at of a COUNT", 0, 3, 2, count -> x.at(count, 0, 0));
        Due.range(x, "at of a MARCHER", 0, 1, 2, m -> x.at(0, m, 0));
        Due.range(x, "at of what", 0, 2, 5, what -> x.at(0, 0, what));
        Due.refused(x, "at(4, 0, 3): 2", x.at(4, 0, 3), 2);
        Due.refused(x, "at(0, 2, 3): 2", x.at(0, 2, 3), 2);
        x.marcher(1, 1, 1);
        Due.refused(x, "at(0, 2, 0): was not there", x.at(0, 2, 0), 2);
        Due.refused(x, "at(0, 2, 3): was not there, 2", x.at(0, 2, 3), 2);
    }

    private static void feetAtFirst() {
        Due.says("all are where no foot was taken since the beginning, or a halt");
        for (int n = 1; n <= 7; n++) {
            notWell("a: turn " + n + ";", 0);
            notWell("a: again 2 { turn " + n + " };", 0);
            notWell("a: halt 1 turn " + n + ";", 0);
            notWell("a: mark 1 halt 1 turn " + n + ";", 0);
            notWell("a: mark 2 halt 99 turn " + n + ";", 0);
            notWell("a: mark 1 halt 1 turn 4 turn " + n + ";", 0);
        }
    }

    private static void feetByTurns() {
        Due.says("A turn of 1 to 3 is WELL behind a left foot (taken latest), of 5 to 7 behind a right one, of 4 behind any");
        String[] counts = {"go #", "back #", "mark #", "follow #", "wheel left #", "wheel right #", "open 2 #", "close 2 #", "shift 0 0 #"};
        for (String order : counts) {
            for (int taken = 1; taken <= 4; taken++) {
                for (int n = 1; n <= 7; n++) {
                    boolean left = taken % 2 == 1;
                    boolean well = n == 4 || (n < 4 ? left : !left);
                    notWell("a: " + order.replace("#", String.valueOf(taken)) + " turn " + n + ";", well ? 0 : 1);
                }
            }
        }
        notWell("a: mark 1 mark 1 turn 3 turn 5;", 1);
        notWell("a: mark 99 turn 3 turn 5;", 1);
        notWell("a: mark 99 mark 51 turn 3 turn 5;", 1);
    }

    private static void feetBehindHalt() {
        Due.says("FEET: of a BODY the next foot is left at first, and behind a halt");
        notWell("a: mark 1 halt 1 mark 1 turn 3;", 0);
        notWell("a: mark 1 halt 1 mark 1 turn 5;", 1);
        notWell("a: mark 2 halt 2 mark 1 turn 3;", 0);
        notWell("a: mark 2 halt 1 mark 2 turn 3;", 1);
        notWell("a: mark 2 halt 1 mark 2 turn 5;", 0);
        notWell("a: halt 1 mark 1 turn 5 turn 3;", 1);
        notWell("a: again 2 { turn 5 mark 1 };", 1);
        notWell("a: again 2 { turn 5 mark 1 halt 1 };", 0);
    }

    private static void feetOfEachLine() {
        Due.says("3: turns that are not WELL (each LINE's, as often as done)");
        notWell("a: mark 1; b: turn 5;", 0);
        notWell("a: mark 1 turn 5; b: turn 5;", 1);
        notWell("a: mark 1 turn 5; b: mark 1 turn 5;", 2);
        notWell("b: mark 1 turn 5; a: mark 2 turn 5;", 1);
        notWell("a: mark 1 again 20 { turn 5 };", 20);
        notWell("a: again 3 { mark 1 turn 7 };", 2);
        notWell("", 0);
    }

    private static void feetOfEachRun() {
        Due.says("Of a RUN");
        DrillField x = Due.field(20, 20, 0);
        for (int i = 0; i < 3; i++) {
            Due.is("run", Due.runOf(x, "a: mark 1 turn 5 turn 5;"), 1);
            Due.fine(x, "told(3): those of this RUN alone", x.told(3), 2);
            Due.error(x, "a: mark 1 turn 5 go 99;", 4, 17);
            Due.fine(x, "told(3): an ERROR's are none of it", x.told(3), 2);
        }
        // A turn takes no count, whatever ORDER stood in its place in a TEXT ahead.
        for (int i = 0; i < 3; i++) {
            Due.is("run", Due.runOf(x, "a: mark 1 mark 99;"), 100);
            Due.is("run", Due.runOf(x, "a: turn 5 turn 5 turn 5;"), 0);
            Due.fine(x, "told(3)", x.told(3), 0);
            Due.is("run", Due.runOf(x, "a: again 2 { turn 5 };"), 0);
            Due.fine(x, "told(3)", x.told(3), 0);
        }
    }
}
