/** Promises 14 to 18: run, error, at, told, clash. */
public final class RunTest {
    public static void main(String[] args) {
        statuses();
        stepsByFace();
        followAndTurn();
        wheels();
        openCloseShift();
        again();
        linesAndBodies();
        feet();
        errors();
        errorLeavesRun();
        clashes();
        hitsAndLongSteps();
        manyClashes();
        Due.end("RunTest");
    }

    private static void statuses() {
        DrillField x = Due.field(10, 10, 0);
        Due.refused(x, "run() without a TEXT", x.run(), 8);
        Due.is("error(0)", x.error(0), -1);
        Due.refused(x, "at(9, 9, 9): 8 first", x.at(9, 9, 9), 8);
        Due.refused(x, "told(-1): 5 ahead of 8", x.told(-1), 5);
        Due.refused(x, "told(5): 5 ahead of 8", x.told(5), 5);
        Due.refused(x, "told(4)", x.told(4), 8);
        Due.refused(x, "clash(0, 3): 5 ahead of 8", x.clash(0, 3), 5);
        Due.refused(x, "clash(0, -1)", x.clash(0, -1), 5);
        Due.refused(x, "clash(0, 0)", x.clash(0, 0), 8);
        Due.is("run", Due.runOf(x, "a: go 2;"), 2);
        Due.is("error(0)", x.error(0), 0);
        Due.is("error(1)", x.error(1), -1);
        Due.is("error(2)", x.error(2), -1);
        Due.is("error(-1)", x.error(-1), -1);
        Due.refused(x, "at(3, 0, 0)", x.at(3, 0, 0), 2);
        Due.refused(x, "at(-1, 0, 0)", x.at(-1, 0, 0), 2);
        Due.refused(x, "at(0, 1, 0)", x.at(0, 1, 0), 2);
        Due.refused(x, "at(0, -1, 9): 2 ahead of 5", x.at(0, -1, 9), 2);
        Due.refused(x, "at(0, 0, 3)", x.at(0, 0, 3), 5);
        Due.refused(x, "at(0, 0, -1)", x.at(0, 0, -1), 5);
        x.marcher(11, 10, 0);
        Due.refused(x, "at(0, 1, 0): was not there", x.at(0, 1, 0), 2);
        Due.fine(x, "run()", x.run(), 2);
        Due.place(x, 2, 1, 11, 10, 0);
        Due.refused(x, "clash(0, 0): none such", x.clash(0, 0), 8);
        Due.refused(x, "clash(-1, 0): none such", x.clash(-1, 0), 8);
    }

    private static void stepsByFace() {
        int[] east = {0, 1, 1, 1, 0, -1, -1, -1};
        int[] north = {1, 1, 0, -1, -1, -1, 0, 1};
        for (int face = 0; face < 8; face++) {
            DrillField x = Due.field(20, 20, face);
            Due.is("run", Due.runOf(x, "a: go 3 mark 1 back 5 halt 1;"), 10);
            Due.place(x, 0, 0, 20, 20, face);
            Due.place(x, 1, 0, 20 + east[face], 20 + north[face], face);
            Due.place(x, 3, 0, 20 + 3 * east[face], 20 + 3 * north[face], face);
            Due.place(x, 4, 0, 20 + 3 * east[face], 20 + 3 * north[face], face);
            Due.place(x, 9, 0, 20 - 2 * east[face], 20 - 2 * north[face], face);
            Due.place(x, 10, 0, 20 - 2 * east[face], 20 - 2 * north[face], face);
        }
    }

    private static void followAndTurn() {
        DrillField x = Due.field(10, 10, 2, 8, 9, 0, 5, 5, 4);
        Due.is("run", Due.runOf(x, "a: follow 1 turn 2 follow 2;"), 3);
        Due.place(x, 1, 0, 11, 10, 4);
        Due.place(x, 1, 1, 10, 10, 4);
        Due.place(x, 1, 2, 8, 9, 2);
        Due.place(x, 2, 0, 11, 9, 4);
        Due.place(x, 2, 1, 11, 10, 4);
        Due.place(x, 2, 2, 10, 10, 4);
        Due.place(x, 3, 0, 11, 8, 4);
        Due.place(x, 3, 2, 11, 10, 4);
        DrillField y = Due.field(10, 10, 6);
        Due.is("turns at the beginning are told with COUNT 0", Due.runOf(y, "a: turn 3 turn 6 go 1;"), 1);
        Due.place(y, 0, 0, 10, 10, 7);
        Due.place(y, 1, 0, 9, 11, 7);
        Due.is("turns alone", Due.runOf(y, "a: turn 7;"), 0);
        Due.place(y, 0, 0, 10, 10, 5);
    }

    private static void wheels() {
        DrillField x = Due.field(20, 20, 7, 23, 21, 1);
        Due.is("run", Due.runOf(x, "a: wheel left 3;"), 3);
        // from 3, 1 of the PIVOT to -1, 3: a third and two of the way.
        Due.place(x, 0, 1, 23, 21, 1);
        Due.place(x, 1, 1, 22, 22, 1);
        Due.place(x, 2, 1, 20, 22, 1);
        Due.place(x, 3, 1, 19, 23, 7);
        Due.place(x, 2, 0, 20, 20, 7);
        Due.place(x, 3, 0, 20, 20, 5);
        Due.is("run", Due.runOf(x, "a: wheel right 2;"), 2);
        // to 1, -3: half of the way is 2, -1.
        Due.place(x, 1, 1, 22, 19, 1);
        Due.place(x, 2, 1, 21, 17, 3);
        Due.place(x, 2, 0, 20, 20, 1);
        DrillField y = Due.field(20, 20, 0, 21, 22, 0);
        Due.is("run", Due.runOf(y, "a: wheel left 2;"), 2);
        // from 1, 2 to -2, 1: -0.5, 1.5 by halves up are 0, 2.
        Due.place(y, 1, 1, 20, 22, 0);
    }

    private static void openCloseShift() {
        DrillField x = Due.field(20, 20, 0, 21, 18, 3);
        Due.is("run", Due.runOf(x, "a: open 4 2 close 2 1 close 2 4;"), 7);
        // from 1, -2 to 4, -8: half of the way is 2.5, -5.
        Due.place(x, 1, 1, 23, 15, 3);
        Due.place(x, 2, 1, 24, 12, 3);
        Due.place(x, 3, 1, 22, 16, 3);
        // from 2, -4 to 1, -2 by quarters.
        Due.place(x, 4, 1, 22, 17, 3);
        Due.place(x, 5, 1, 22, 17, 3);
        Due.place(x, 6, 1, 21, 18, 3);
        Due.place(x, 7, 1, 21, 18, 3);
        Due.place(x, 7, 0, 20, 20, 0);
        DrillField y = Due.field(20, 20, 5, 30, 30, 2);
        Due.is("run", Due.runOf(y, "a: shift 3 -3 2 shift - 20 0 3 shift 0 -0 1;"), 6);
        Due.place(y, 1, 0, 22, 19, 5);
        Due.place(y, 2, 0, 23, 17, 5);
        Due.place(y, 1, 1, 32, 29, 2);
        Due.place(y, 3, 0, 16, 17, 5);
        Due.place(y, 4, 0, 10, 17, 5);
        Due.place(y, 5, 0, 3, 17, 5);
        Due.place(y, 6, 0, 3, 17, 5);
        DrillField z = Due.field(0, 0, 0, 59, 39, 0);
        Due.is("to the edges", Due.runOf(z, "a: shift 0 0 1;"), 1);
        z.group(2, 1);
        z.group(3, 2);
        Due.is("to the corners", Due.runOf(z, "b: shift 59 39 99; c: shift -59 -39 1;"), 99);
        Due.place(z, 99, 0, 59, 39, 0);
        Due.place(z, 1, 1, 0, 0, 0);
        Due.place(z, 99, 1, 0, 0, 0);
        // 59 / 99 is 0.60, 39 / 99 is 0.39.
        Due.place(z, 1, 0, 1, 0, 0);
    }

    private static void again() {
        DrillField x = Due.field(20, 20, 0);
        Due.is("run", Due.runOf(x, "a: again 4 { go 2 turn 2 };"), 8);
        Due.place(x, 4, 0, 22, 22, 4);
        Due.place(x, 8, 0, 20, 20, 0);
        Due.is("within", Due.runOf(x, "a: again 2 { again 3 { again 2 { mark 1 } halt 1 } go 1 } go 1;"), 21);
        Due.place(x, 9, 0, 20, 20, 0);
        Due.place(x, 10, 0, 20, 21, 0);
        Due.place(x, 21, 0, 20, 23, 0);
        Due.is("empty ones", Due.runOf(x, "a: again 20 { again 2 { again 2 { } } } go 1;"), 1);
        Due.place(x, 1, 0, 20, 21, 0);
        Due.is("many empty ones", Due.runOf(x, "a: again 20 { again 20 { again 20 { } } } go 1;"), 1);
        Due.place(x, 1, 0, 20, 21, 0);
        Due.is("empty at the end", Due.runOf(x, "a: go 1 again 2 { go 1 again 20 { } };"), 3);
        Due.is("one behind another", Due.runOf(x, "a: again 2 { go 1 } again 3 { go 1 };"), 5);
    }

    private static void linesAndBodies() {
        DrillField x = Due.field(10, 10, 0, 12, 10, 0, 14, 10, 0);
        x.group(2, 3);
        x.group(3, 6);
        Due.fine(x, "orders", Due.tell(x, "c: go 2; b: shift 0 -2 1 wheel left 1; a: go 9;"), 4);
        x.group(2, 4);
        x.group(4, 1);
        Due.fine(x, "run(): by GROUPS as they were", x.run(), 9);
        Due.place(x, 2, 1, 12, 12, 0);
        Due.place(x, 9, 1, 12, 12, 0);
        Due.place(x, 9, 2, 14, 12, 0);
        Due.place(x, 1, 0, 10, 8, 0);
        Due.place(x, 2, 0, 10, 8, 6);
        Due.place(x, 9, 0, 10, 8, 6);
        Due.fine(x, "a BODY of none still has counts", Due.tell(x, "a: mark 1; d: follow 1 wheel left 1 open 2 1 close 3 1 go 40;"), 6);
        Due.fine(x, "run()", x.run(), 44);
        Due.place(x, 44, 0, 10, 10, 0);
        Due.fine(x, "who is in no GROUP stays", Due.runOf(x, "d: go 1;"), 1);
        Due.place(x, 1, 1, 12, 10, 0);
    }

    private static void feet() {
        Object[][] texts = {
            {"a: turn 1 turn 7 turn 4;", 0}, {"a: mark 1 turn 1 turn 2 turn 3 turn 4;", 0},
            {"a: mark 1 turn 5 turn 6 turn 7;", 3}, {"a: mark 2 turn 5 turn 6 turn 7 turn 4;", 0},
            {"a: mark 2 turn 1 turn 2 turn 3;", 3}, {"a: mark 2 halt 1 turn 1 turn 7;", 0},
            {"a: mark 3 halt 2 mark 1 turn 1 turn 7;", 1}, {"a: mark 1 halt 1 mark 2 turn 1 turn 7;", 1},
            {"a: go 1 back 1 shift 1 1 1 wheel left 1 turn 7;", 0}, {"a: go 1 follow 1 open 2 1 turn 7;", 1},
            {"a: again 5 { mark 1 turn 1 };", 2}, {"a: mark 1; b: turn 7;", 0}, {"a: mark 1; b: mark 1 turn 7;", 1},
            {"a: mark 1 turn 7; b: again 2 { mark 1 turn 7 };", 2}, {"a: go 3 close 2 3 turn 3;", 1}};
        for (Object[] t : texts) {
            DrillField x = Due.field(20, 20, 0, 22, 22, 0);
            x.group(2, 2);
            Due.is("run of " + t[0], Due.runOf(x, (String) t[0]) < 0 ? -1 : 0, 0);
            Due.fine(x, "told(3) of " + t[0], x.told(3), (Integer) t[1]);
        }
    }

    private static void errors() {
        Object[][] texts = {
            // text, ERROR, place
            {"a: mark 99 mark 51;", 0, -1}, {"a: mark 99 mark 52;", 2, 11}, {"a: mark 99 go 99;", 2, 11},
            {"a: mark 99 halt 52 go 99;", 2, 11}, {"a: go 20;", 4, 3}, {"a: go 19;", 0, -1}, {"a: back 21;", 4, 3},
            {"a: back 20;", 0, -1}, {"a: follow 20;", 4, 3}, {"a: mark 1 follow 20;", 4, 10},
            {"a: close 2 1;", 3, 3}, {"a: close 3 1;", 0, -1}, {"a: mark 99 close 2 99;", 2, 11},
            {"a: open 5 1 open 5 1;", 4, 12}, {"a: shift 37 0 99;", 4, 3}, {"a: shift 36 0 99;", 0, -1},
            {"a: shift -21 0 1;", 4, 3}, {"a: shift 0 20 1;", 4, 3}, {"a: shift 0 -20 1;", 0, -1},
            {"a: shift 0 -21 1;", 4, 3}, {"a: again 2 { go 10 };", 4, 13},
            {"a: again 5 { mark 30 } turn 1;", 0, -1}, {"a: again 5 { mark 30 } mark 1;", 2, 23},
            {"a: again 6 { mark 30 };", 2, 13}, {"a: shift 0 -20 1 wheel right 1;", 4, 17},
            {"a: again 20 { again 20 { again 20 { } } };", 0, -1},
            // 1 + 20 x 25 are 501.
            {"a: again 20 { again 20 { turn 1 turn 1 } };", 1, 25},
            {"a: again 20 { again 12 { turn 1 turn 1 } } turn 1;", 1, 32},
            {"a: again 20 { again 12 { turn 1 turn 1 } };", 1, 32},
            // 1 + 10 x 49 and 4 are 495; 1 + 19 x 25, 21 and 3 are 500.
            {"a: again 10 { again 16 { turn 1 turn 1 turn 1 } } again 3 { turn 1 };", 0, -1},
            {"a: again 19 { again 12 { turn 1 turn 1 } } again 20 { turn 1 } turn 1 turn 1 turn 1;", 0, -1},
            {"a: again 19 { again 12 { turn 1 turn 1 } } again 20 { turn 1 } turn 1 turn 1 turn 1 turn 1;", 1, 84},
            {"a: again 19 { again 12 { turn 1 turn 1 } } again 20 { turn 1 } turn 1 turn 1 turn 1 again 2 { };", 1, 84},
            {"a: again 19 { again 12 { turn 1 turn 1 } } again 20 { turn 1 } turn 1 turn 1 turn 1 mark 99;", 1, 84}};
        for (Object[] t : texts) {
            DrillField x = Due.field(20, 20, 0, 23, 20, 0);
            String text = (String) t[0];
            Due.is("orders of " + text, Due.tell(x, text) < 0 ? -1 : 0, 0);
            int want = (Integer) t[1];
            int got = x.run();
            Due.is("run of " + text, got < 0 ? -1 : 0, want == 0 ? 0 : -1);
            Due.is("status() of " + text, x.status(), want == 0 ? 0 : 10);
            Due.is("error(0) of " + text, x.error(0), want);
            Due.is("error(1) of " + text, x.error(1), (Integer) t[2]);
        }
        lineByLine();
    }

    private static void lineByLine() {
        DrillField x = Due.field(20, 20, 0, 23, 20, 0);
        x.group(2, 2);
        Due.is("orders", Due.tell(x, "b: mark 90 go 20; a: close 2 1 go 99;"), 4);
        Due.refused(x, "run()", x.run(), 10);
        Due.is("error(0): the first LINE's", x.error(0), 4);
        Due.is("error(1)", x.error(1), 11);
        Due.is("orders", Due.tell(x, "b: mark 99 mark 51; a: mark 1 go 20;"), 4);
        Due.refused(x, "run()", x.run(), 10);
        Due.is("error(0): counts are each LINE's own", x.error(0), 4);
        Due.is("error(1)", x.error(1), 30);
        Due.is("orders: the BODY's PIVOT alone has nothing to close", Due.tell(x, "b: close 5 1;"), 1);
        Due.fine(x, "run()", x.run(), 1);
    }

    private static void errorLeavesRun() {
        DrillField x = Due.field(20, 20, 0, 20, 20, 2);
        Due.is("run", Due.runOf(x, "a: go 4;"), 4);
        Due.is("orders", Due.tell(x, "a: mark 2 turn 1 go 30;"), 3);
        Due.refused(x, "run()", x.run(), 10);
        Due.is("error(0)", x.error(0), 4);
        Due.is("error(1)", x.error(1), 17);
        Due.place(x, 4, 0, 20, 24, 0);
        Due.place(x, 0, 1, 20, 20, 2);
        Due.fine(x, "told(3)", x.told(3), 0);
        Due.fine(x, "told(0)", x.told(0), 1);
        Due.refused(x, "at(5, 0, 0)", x.at(5, 0, 0), 2);
        Due.refused(x, "a TEXT with a FAULT", Due.tell(x, "a"), 10);
        Due.is("error(0) stays", x.error(0), 4);
        Due.is("run", Due.runOf(x, "a: go 1;"), 1);
        Due.is("error(0)", x.error(0), 0);
        Due.is("error(1)", x.error(1), -1);
        DrillField y = Due.field(20, 20, 0);
        Due.is("orders", Due.tell(y, "a: go 30;"), 1);
        Due.refused(y, "run()", y.run(), 10);
        Due.refused(y, "at(0, 0, 0): no RUN", y.at(0, 0, 0), 8);
        Due.refused(y, "run() again", y.run(), 10);
    }

    private static void clashes() {
        // 0 and 1 meet, 2 and 3 exchange, 4 and 5 begin on one SPOT, 6 goes where 4 was.
        DrillField x = Due.field(10, 10, 2, 12, 10, 6, 10, 20, 1, 11, 21, 5, 30, 30, 0, 30, 30, 2, 30, 29, 0);
        Due.is("run", Due.runOf(x, "a: go 2;"), 2);
        Due.fine(x, "told(0)", x.told(0), 3);
        int[][] want = {{0, 4, 5}, {1, 0, 1}, {1, 2, 3}};
        for (int k = 0; k < 3; k++) {
            for (int what = 0; what < 3; what++) {
                Due.fine(x, "clash(" + k + ", " + what + ")", x.clash(k, what), want[k][what]);
            }
        }
        Due.refused(x, "clash(3, 0)", x.clash(3, 0), 8);
        Due.refused(x, "clash(2147483647, 0)", x.clash(Integer.MAX_VALUE, 0), 8);
        Due.refused(x, "clash(-2147483648, 0)", x.clash(Integer.MIN_VALUE, 0), 8);
        DrillField y = Due.field(10, 10, 0, 10, 10, 0, 10, 10, 0);
        Due.is("run", Due.runOf(y, "a: mark 2;"), 2);
        Due.fine(y, "told(0): three pairs at three COUNTS", y.told(0), 9);
        Due.fine(y, "clash(4, 0)", y.clash(4, 0), 1);
        Due.fine(y, "clash(4, 1)", y.clash(4, 1), 0);
        Due.fine(y, "clash(4, 2)", y.clash(4, 2), 2);
        Due.fine(y, "clash(8, 1)", y.clash(8, 1), 1);
        Due.fine(y, "clash(8, 2)", y.clash(8, 2), 2);
    }

    private static void hitsAndLongSteps() {
        DrillField x = Due.field(10, 10, 2, 10, 10, 1);
        x.prop(10, 10);
        x.prop(12, 10);
        Due.is("run", Due.runOf(x, "a: go 2 shift 0 3 2 shift 3 4 1;"), 5);
        Due.fine(x, "told(1): both at COUNT 0, one at 2", x.told(1), 3);
        x.prop(15, 17);
        Due.fine(x, "told(1) with a PROP more", x.told(1), 4);
        Due.fine(x, "told(4)", x.told(4), 25);
        // shift 0 3 2 is 2 and 1 (1.5 up to 2).
        Due.fine(x, "told(2)", x.told(2), 4);
        x.steps(4);
        Due.fine(x, "told(2) above 4", x.told(2), 2);
        x.steps(25);
        Due.fine(x, "told(2) above 25", x.told(2), 0);
        DrillField z = Due.field(10, 10, 2, 30, 30, 2);
        z.group(2, 1);
        Due.is("run", Due.runOf(z, "b: shift 5 0 1 mark 1;"), 2);
        Due.fine(z, "told(4): MARCHER 0's in the first count", z.told(4), 25);
        Due.is("run", Due.runOf(z, "b: mark 1 turn 7; a: shift -6 0 1;"), 1);
        Due.fine(z, "told(4): the last MARCHER's in the last count", z.told(4), 36);
        Due.fine(z, "told(3)", z.told(3), 1);
        Due.is("run", Due.runOf(z, "b: go 1;"), 1);
        Due.fine(z, "told(3) of the next RUN", z.told(3), 0);
        DrillField y = Due.field(10, 10, 2);
        Due.is("run of no counts", Due.runOf(y, ""), 0);
        Due.fine(y, "told(4)", y.told(4), 0);
        Due.fine(y, "told(2)", y.told(2), 0);
        Due.is("run of no MARCHERS", Due.runOf(new DrillField(), ""), 0);
    }

    private static void manyClashes() {
        DrillField x = new DrillField();
        for (int i = 0; i < 20; i++) {
            x.marcher(30, 20, 0);
        }
        x.group(1, (1 << 20) - 1);
        Due.is("run", Due.runOf(x, "a: halt 99 halt 51;"), 150);
        Due.fine(x, "told(0)", x.told(0), 151 * 190);
        Due.fine(x, "clash(last, 0)", x.clash(151 * 190 - 1, 0), 150);
        Due.fine(x, "clash(last, 1)", x.clash(151 * 190 - 1, 1), 18);
        Due.fine(x, "clash(last, 2)", x.clash(151 * 190 - 1, 2), 19);
        Due.refused(x, "clash behind the last", x.clash(151 * 190, 2), 8);
    }
}
