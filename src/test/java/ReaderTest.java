/** Promises 11 to 13: feed, orders, fault. */
public final class ReaderTest {
    public static void main(String[] args) {
        feed();
        tape();
        wellTexts();
        faults();
        limits();
        textStays();
        Due.end("ReaderTest");
    }

    private static DrillField field() {
        DrillField x = new DrillField();
        x.marcher(20, 20, 0);
        x.marcher(22, 20, 0);
        x.group(Due.word("x"), 1);
        x.group(Due.word("y"), 2);
        x.group(Due.word("abcdefgh"), 3);
        return x;
    }

    private static void feed() {
        DrillField x = new DrillField();
        x.read(9, 9);
        for (int i = 1; i <= 25; i++) {
            Due.is("feed " + i, x.feed(0, 0, 0, 0, 0), 20 * i);
        }
        Due.is("a 26th feed", x.feed(0, 0, 0, 0, 0), -1);
        Due.is("status(): feed has none", x.status(), 1);
        Due.refused(x, "orders(501)", x.orders(501), 5);
        Due.refused(x, "orders(500): 500 are there", x.orders(500), 10);
    }

    private static void tape() {
        DrillField x = field();
        Due.refused(x, "orders(-1)", x.orders(-1), 5);
        Due.is("fault(0) ahead of any", x.fault(0), -1);
        Due.feed(x, "x: go 1;");
        Due.refused(x, "orders(21)", x.orders(21), 5);
        Due.refused(x, "orders(-2147483648)", x.orders(Integer.MIN_VALUE), 5);
        Due.fine(x, "orders(20): the tape stayed", x.orders(20), 1);
        Due.refused(x, "orders(1): the tape is empty", x.orders(1), 5);
        Due.fine(x, "orders(0)", x.orders(0), 0);
        Due.fine(x, "run() of an empty TEXT", x.run(), 0);
        Due.refused(x, "a FAULT", Due.tell(x, "?"), 10);
        Due.refused(x, "orders(1): the tape is empty behind a FAULT", x.orders(1), 5);
        Due.feed(x, "x: go 1; y: go 1;");
        Due.fine(x, "orders(8): the first alone", x.orders(8), 1);
        Due.is("feed: the rest is gone", x.feed(0, 0, 0, 0, 0), 20);
        // The highest byte of each int comes first.
        DrillField y = field();
        Due.is("feed by bytes", y.feed('x' << 24 | ':' << 16 | 'g' << 8 | 'o', '4' << 24 | ';' << 16
                | 10 << 8 | 32, 0x20202020, 0x20202020, 0x20202020), 20);
        Due.fine(y, "orders(20)", y.orders(20), 1);
        Due.fine(y, "run()", y.run(), 4);
    }

    private static void wellTexts() {
        Object[][] texts = {
            {"", 0}, {" \n ", 0}, {"x:;", 0}, {"x:;y:;abcdefgh:;", 0}, {"x:go1;", 1}, {"x:go1go2;", 2},
            {"x\n:\ngo\n99\n;", 1}, {"x: go 001;", 1}, {"x: back 99 mark 1 halt 99 follow 1;", 4},
            {"x: turn 1 turn 7;", 2}, {"x: wheel left 1 wheel right 99;", 2}, {"x:wheel left99;", 1},
            {"x: open 2 1 open 5 99 close 2 1 close 5 99;", 4},
            {"x: shift 0 0 1 shift 59 59 99 shift -59 -59 1 shift - 1 -0 1;", 4}, {"x:shift-1-1 1;", 1},
            {"x: again 2 {};", 1}, {"x:again20{go1again 2{again 2{}}};", 4}, {"x:again 2{}again 2{};", 2}};
        for (Object[] t : texts) {
            DrillField x = field();
            String text = (String) t[0];
            Due.fine(x, "orders of " + text, Due.tell(x, text), (Integer) t[1]);
            Due.is("fault(0) of " + text, x.fault(0), 0);
            Due.is("fault(1) of " + text, x.fault(1), -1);
            Due.is("fault(2) of " + text, x.fault(2), -1);
            Due.is("fault(-1) of " + text, x.fault(-1), -1);
        }
    }

    private static void faults() {
        Object[][] texts = {
            // 1: no TOKEN begins so
            {"X", 1, 0}, {"x: Go 1;", 1, 3}, {"x:\tgo 1;", 1, 2}, {"x: go 1000;", 1, 6}, {"x: go 0001;", 1, 6},
            {"x: go 1; \u00e9", 1, 9}, {"x: go 12\0;", 1, 8}, {"x: go 1,", 1, 7}, {"x: \r", 1, 3},
            {"1234", 1, 0}, {"x: go 1`", 1, 7}, {"x: go 1/", 1, 7}, {"x{1", 2, 1}, {"x: go 1|", 1, 7},
            {"x: again 2 [", 1, 11}, {"x: shift _1", 1, 9}, {"x: shift +1 1 1;", 1, 9},
            // 2: it can't stand there
            {":", 2, 0}, {";", 2, 0}, {"x", 2, 1}, {"x  ", 2, 3}, {"x:", 2, 2}, {"x: go 1", 2, 7}, {"x go", 2, 2},
            {"x;", 2, 1}, {"x::", 2, 2}, {"x: 1", 2, 3}, {"x: x", 2, 3}, {"x: gogo 1;", 2, 3}, {"x: go -1;", 2, 6},
            {"x: go go", 2, 6}, {"x: go ;", 2, 6}, {"x: go 1 1;", 2, 8}, {"x: go 1 };", 2, 8}, {"x: { go 1 };", 2, 3},
            {"x: wheel 1;", 2, 9}, {"x: wheel up 1;", 2, 9}, {"x: wheel left right 1;", 2, 14},
            {"x: wheel lefty 1;", 2, 9}, {"x: wheel : 1;", 2, 9}, {"x: wheel left;", 2, 13},
            {"x: open 2;", 2, 9}, {"x: open -2 1;", 2, 8}, {"x: open 2 -1;", 2, 10}, {"x: close 2 go", 2, 11},
            {"x: shift 1 1;", 2, 12}, {"x: shift 1 - - 1;", 2, 13}, {"x: shift - ;", 2, 11}, {"x: shift 1 1 -1;", 2, 13},
            {"x: shift go", 2, 9}, {"x: turn -1;", 2, 8}, {"x: turn;", 2, 7}, {"x: again 2;", 2, 10},
            {"x: again 2 go 1;", 2, 11}, {"x: again 2 {;", 2, 12}, {"x: again 2 { go 1;};", 2, 17},
            {"x: again { };", 2, 9}, {"x: again 2 { go 1 }", 2, 19}, {"x: again 2 { go 1 ", 2, 18},
            {"x: again 2 } ", 2, 11}, {"x: go 1; ;", 2, 9}, {"x: go 1; 5", 2, 9}, {"x: left 1;", 2, 3},
            {"x: abcdefghi 1;", 2, 3}, {"x: wheel abcdefghi", 2, 9}, {"x: goooooooooooo 1;", 2, 3},
            {"x: -", 2, 3}, {"x: again 2 { } }", 2, 15}, {"-", 2, 0}, {"5x", 2, 0},
            // 3: no GROUP of that NAME, or a LINE of it there already
            {"z", 3, 0}, {"xx: go 1;", 3, 0}, {"abcdefghi: go 1;", 3, 0}, {"aabcdefgh: go 1;", 3, 0},
            {"x: go 1; x", 3, 9}, {"x:;y:;x:;", 3, 6}, {"  go: go 1;", 3, 2}, {"x: go 1; y: go 1;abcdefg", 3, 17},
            // 4: a NUMBER that can't be
            {"x: go 0;", 4, 6}, {"x: go 100;", 4, 6}, {"x: back 0;", 4, 8}, {"x: mark 100;", 4, 8}, {"x: halt 0;", 4, 8},
            {"x: follow 0;", 4, 10}, {"x: follow 100;", 4, 10}, {"x: turn 0;", 4, 8}, {"x: turn 8;", 4, 8},
            {"x: wheel left 0;", 4, 14}, {"x: wheel right 100;", 4, 15}, {"x: open 1 1;", 4, 8}, {"x: open 6 1;", 4, 8},
            {"x: open 2 0;", 4, 10}, {"x: close 1 1;", 4, 9}, {"x: close 6 1;", 4, 9}, {"x: close 5 100;", 4, 11},
            {"x: shift 60 0 1;", 4, 9}, {"x: shift -60 0 1;", 4, 10}, {"x: shift 0 -60 1;", 4, 12},
            {"x: shift 0 60 1;", 4, 11}, {"x: shift 0 0 0;", 4, 13}, {"x: shift 0 0 100;", 4, 13},
            {"x: again 1 {", 4, 9}, {"x: again 21 {", 4, 9}, {"x: again 0", 4, 9}, {"x: go 0 ?", 4, 6},
            // 6: an again within three others
            {"x: again 2{again 2{again 2{again 2{}}}};", 6, 27}, {"x:again 2{again 2{again 2{go 1 again", 6, 31}};
        for (Object[] t : texts) {
            DrillField x = field();
            String text = (String) t[0];
            Due.refused(x, "orders of " + text, Due.tell(x, text), 10);
            Due.is("fault(0) of " + text, x.fault(0), (Integer) t[1]);
            Due.is("fault(1) of " + text, x.fault(1), (Integer) t[2]);
            Due.is("fault(2) of " + text, x.fault(2), -1);
        }
    }

    private static void limits() {
        DrillField x = field();
        String sixty = "x:" + "go1".repeat(59) + "again 2{";
        Due.fine(x, "60 ORDERS", Due.tell(x, sixty + "};"), 60);
        Due.refused(x, "a 61st", Due.tell(x, sixty + "go"), 10);
        Due.is("fault(0)", x.fault(0), 5);
        Due.is("fault(1)", x.fault(1), sixty.length());
        Due.refused(x, "a 61st in another LINE", Due.tell(x, sixty + "};y: turn 1;"), 10);
        Due.is("fault(0)", x.fault(0), 5);
        Due.is("fault(1)", x.fault(1), sixty.length() + 5);
        Due.refused(x, "no ORDER's WORD there: 2", Due.tell(x, sixty + "gone"), 10);
        Due.is("fault(0)", x.fault(0), 2);
        String deep = "x:" + "go1".repeat(57) + "again 2{again 2{again 2{";
        Due.refused(x, "a 61st and too deep: 5", Due.tell(x, deep + "again 2{}}}};"), 10);
        Due.is("fault(0)", x.fault(0), 5);
        Due.is("fault(1)", x.fault(1), deep.length());
        String[] opens = {"x:again 2{again 2{again 2{go 1}again 2{go 1}}again 2{again 2{}}};", "x:again 2{}again 2{}again 2{};"};
        Due.fine(x, "three deep, often", Due.tell(x, opens[0]), 8);
        Due.fine(x, "three in a row", Due.tell(x, opens[1]), 3);
        String full = "x: go 1" + " ".repeat(492) + ";";
        Due.is("500 bytes", full.length(), 500);
        Due.fine(x, "a TEXT of 500 bytes", Due.tell(x, full), 1);
        Due.refused(x, "the end of 500 bytes", Due.tell(x, full.replace(';', ' ')), 10);
        Due.is("fault(1)", x.fault(1), 500);
    }

    private static void textStays() {
        DrillField x = field();
        Due.fine(x, "a TEXT", Due.tell(x, "x: go 3; y: go 1;"), 2);
        Due.refused(x, "a FAULT", Due.tell(x, "y: go 7; x: go 2 }"), 10);
        Due.is("fault(0)", x.fault(0), 2);
        Due.fine(x, "run() of the TEXT that stayed", x.run(), 3);
        Due.refused(x, "orders(1)", x.orders(1), 5);
        Due.is("fault(0) behind STATUS 5", x.fault(0), 2);
        Due.is("fault(1) behind STATUS 5", x.fault(1), 17);
        Due.fine(x, "orders(0)", x.orders(0), 0);
        Due.is("fault(0) behind STATUS 0", x.fault(0), 0);
        Due.is("fault(1) behind STATUS 0", x.fault(1), -1);
        DrillField y = field();
        Due.refused(y, "a FAULT", Due.tell(y, "y: go 7; x: go 2 }"), 10);
        Due.refused(y, "run(): no TEXT was told", y.run(), 8);
    }
}
