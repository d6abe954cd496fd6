/** Boundary cases of the promises 11 to 13, each under the sentence of the document that names it. */
public final class TextEdgeTest {
    public static void main(String[] args) {
        feedFull();
        feedBytes();
        textOf500();
        firstBytes();
        tapeBehindOrders();
        everyByteAsToken();
        everyByteBetween();
        tokensAsLongAsTheyGo();
        numbersOfDigits();
        nothingInside();
        wholes();
        sides();
        firstAlongTheText();
        leastKind();
        theEnd();
        cantStand();
        noSuchGroup();
        groupNow();
        longWords();
        lineThereAlready();
        everyNumber();
        sixtyOrders();
        againWithin();
        textStays();
        faultAsked();
        Due.end("TextEdgeTest");
    }

    /** MARCHERS that have room about them, GROUPS x, y, and one with a NAME of eight letters. */
    private static DrillField field() {
        DrillField x = new DrillField();
        x.marcher(20, 20, 0);
        x.marcher(22, 20, 0);
        x.group(Due.word("x"), 1);
        x.group(Due.word("y"), 2);
        x.group(Due.word("abcdefgh"), 3);
        return x;
    }

    private static void well(DrillField x, String text, int orders) {
        Due.fine(x, "orders of " + text, Due.tell(x, text), orders);
        Due.is("fault(0) of " + text, x.fault(0), 0);
        Due.is("fault(1) of " + text, x.fault(1), -1);
    }

    private static void feedFull() {
        Due.says("how many it has; NONE if there would be more than 500.");
        DrillField x = field();
        for (int many = 20; many <= 500; many += 20) {
            Due.is("feed", x.feed(0x20202020, 0x20202020, 0x20202020, 0x20202020, 0x20202020), many);
        }
        Due.is("feed of a full tape", x.feed(-1, -1, -1, -1, -1), -1);
        Due.is("feed of a full tape again", x.feed(-1, -1, -1, -1, -1), -1);
        Due.fine(x, "orders(500): what was refused is not there", x.orders(500), 0);
        Due.is("feed of the empty tape", x.feed(0, 0, 0, 0, 0), 20);
    }

    private static void feedBytes() {
        Due.says("Twenty bytes come behind those on the tape, the highest of each int first");
        DrillField x = field();
        Due.is("feed", x.feed(0x783a676f, 0x31676f32, 0x676f3367, 0x6f34676f, 0x35676f36), 20);
        Due.is("feed", x.feed(0x676f3767, 0x6f38676f, 0x39202020, 0x20202020, 0x2020203b), 40);
        Due.fine(x, "orders(40)", x.orders(40), 9);
        Due.is("feed", x.feed(0x783a6261, 0x636b207f, 0, 0, 0), 20);
        Due.refused(x, "orders(8)", x.orders(8), 10);
        Due.is("fault(1): the lowest byte of the second int", x.fault(1), 7);
        Due.is("feed", x.feed(0x20202020, 0x20202020, 0x20202020, 0x20202020, 0x20202080), 20);
        Due.refused(x, "orders(20)", x.orders(20), 10);
        Due.is("fault(1): the last of the twenty", x.fault(1), 19);
        Due.is("feed", x.feed(0x80202020, -1, -1, -1, -1), 20);
        Due.refused(x, "orders(20)", x.orders(20), 10);
        Due.is("fault(1): the first of the twenty", x.fault(1), 0);
    }

    private static void textOf500() {
        Due.says("ORDERS are a TEXT of at most 500 bytes.");
        DrillField x = field();
        well(x, "x:" + " ".repeat(492) + "go 1 ;", 1);
        well(x, "\n".repeat(500), 0);
        Due.fault(x, "x:" + " ".repeat(497) + "?", 1, 499);
        Due.fault(x, "x:" + " ".repeat(498), 2, 500);
        Due.fault(x, " ".repeat(497) + "aaa", 3, 497);
        Due.fault(x, "x: go " + "1".repeat(494), 1, 6);
        Due.fault(x, "a".repeat(500), 3, 0);
        Due.feed(x, " ".repeat(500));
        Due.refused(x, "orders(501)", x.orders(501), 5);
    }

    private static void firstBytes() {
        Due.says("The first n bytes of the tape (which is empty then, but for 5) are the TEXT");
        DrillField x = field();
        Due.feed(x, "x: go 1; y: go 10;");
        Due.refused(x, "orders(21)", x.orders(21), 5);
        Due.refused(x, "orders(-1)", x.orders(-1), 5);
        Due.refused(x, "orders(2147483647)", x.orders(Integer.MAX_VALUE), 5);
        Due.refused(x, "orders(-2147483648)", x.orders(Integer.MIN_VALUE), 5);
        Due.is("fault(0): no orders() with 0 or 10 yet", x.fault(0), -1);
        Due.fine(x, "orders(20): all of it, the tape stayed", x.orders(20), 2);
        Due.fine(x, "run()", x.run(), 10);
        int[][] want = {{0, 0, -1}, {1, 2, 1}, {2, 2, 2}, {3, 2, 3}, {4, 2, 3}, {5, 2, 5}, {6, 2, 6}, {7, 2, 7}, {8, 0, -1},
            {9, 0, -1}, {10, 2, 10}, {16, 2, 16}, {17, 2, 17}, {18, 0, -1}};
        for (int[] w : want) {
            Due.feed(x, "x: go 1; y: go 10;");
            x.orders(w[0]);
            Due.is("orders(" + w[0] + "): status()", x.status(), w[1] == 0 ? 0 : 10);
            Due.is("orders(" + w[0] + "): fault(0)", x.fault(0), w[1]);
            Due.is("orders(" + w[0] + "): fault(1)", x.fault(1), w[2]);
        }
        Due.feed(x, "x: go 12;");
        Due.refused(x, "orders(7): a NUMBER cut off, and no ;", x.orders(7), 10);
        Due.feed(x, "x: go 9999;");
        Due.refused(x, "orders(9): three digits of four", x.orders(9), 10);
        Due.is("fault(0): the NUMBER of three digits can't be", x.fault(0), 4);
    }

    private static void tapeBehindOrders() {
        Due.says("(which is empty then, but for 5)");
        DrillField x = field();
        Due.feed(x, "x: go 1;");
        Due.fine(x, "orders(8)", x.orders(8), 1);
        Due.refused(x, "orders(1): empty behind STATUS 0", x.orders(1), 5);
        Due.is("feed", x.feed(0, 0, 0, 0, 0), 20);
        Due.refused(x, "orders(20)", x.orders(20), 10);
        Due.refused(x, "orders(1): empty behind STATUS 10", x.orders(1), 5);
        Due.feed(x, "x: go 1;");
        Due.fine(x, "orders(0)", x.orders(0), 0);
        Due.refused(x, "orders(1): empty behind none of it", x.orders(1), 5);
        Due.feed(x, "x: go 1;");
        Due.refused(x, "orders(21)", x.orders(21), 5);
        Due.is("feed: not empty behind STATUS 5", x.feed(0x20202020, 0x20202020, 0x20202020, 0x20202020, 0x20202020), 40);
        Due.fine(x, "orders(40)", x.orders(40), 1);
    }

    private static void everyByteAsToken() {
        Due.says("1 no TOKEN begins so");
        for (int sign = 0; sign < 256; sign++) {
            DrillField x = field();
            String text = String.valueOf((char) sign);
            if (sign == 10 || sign == 32) {
                well(x, text, 0);
            } else if (sign == 'x' || sign == 'y') {
                Due.fault(x, text, 2, 1);
            } else if (sign >= 'a' && sign <= 'z') {
                Due.fault(x, text, 3, 0);
            } else {
                boolean token = sign >= '0' && sign <= '9' || ":;{}-".indexOf(sign) >= 0;
                Due.fault(x, text, token ? 2 : 1, 0);
            }
        }
    }

    private static void everyByteBetween() {
        Due.says("between them blanks (10, 32)");
        for (int sign = 0; sign < 256; sign++) {
            DrillField x = field();
            String text = "x: go 1" + (char) sign + "go 2;";
            if (sign == 10 || sign == 32) {
                well(x, text, 2);
            } else if (sign >= '0' && sign <= '9') {
                well(x, text, 2);
            } else if (sign >= 'a' && sign <= 'z') {
                Due.fault(x, text, 2, 7);
            } else if (sign == ';') {
                Due.fault(x, text, 3, 8);
            } else {
                Due.fault(x, text, ":{}-".indexOf(sign) >= 0 ? 2 : 1, 7);
            }
        }
    }

    private static void tokensAsLongAsTheyGo() {
        Due.says("TOKENS, as long as they go, between them blanks (10, 32)");
        DrillField x = field();
        well(x, "x:go1go2;y:go3;", 3);
        well(x, "x:wheel left1shift-1-2 3open2 4;", 3);
        well(x, "x:again2{go1}again2{again2{}};", 4);
        Due.fault(x, "x:gogo1;", 2, 2);
        Due.fault(x, "x:g o1;", 2, 2);
        Due.fault(x, "x:wheelleft1;", 2, 2);
        Due.fault(x, "x:go 1 1;", 2, 7);
        Due.fault(x, "x:open 21;", 4, 7);
        well(x, " \n x \n : \n go \n 1 \n ; \n ", 1);
    }

    private static void numbersOfDigits() {
        Due.says("NUMBERS (1 to 3 digits)");
        DrillField x = field();
        well(x, "x:go 1;", 1);
        well(x, "x:go 01;", 1);
        well(x, "x:go 001;", 1);
        well(x, "x:go 099;", 1);
        well(x, "x:shift 000 000 001;", 1);
        Due.fault(x, "x:go 000;", 4, 5);
        Due.says("1 no TOKEN begins so (a NUMBER of 4 digits and more: at its first)");
        Due.fault(x, "x:go 0001;", 1, 5);
        Due.fault(x, "x:go 1000;", 1, 5);
        Due.fault(x, "x:go 00000000000000000001;", 1, 5);
        Due.fault(x, "x:go 18446744073709551617;", 1, 5);
        Due.fault(x, "x:go 4294967297;", 1, 5);
        Due.fault(x, "x:shift -0001 0 1;", 1, 9);
    }

    private static void nothingInside() {
        Due.says("({LINE}: any number of times; the { } behind again are SIGNS; [ ] perhaps.)");
        DrillField x = field();
        well(x, "", 0);
        well(x, " ", 0);
        well(x, "x:;", 0);
        well(x, "x:;y:;abcdefgh:;", 0);
        well(x, "x:again 2{};", 1);
        well(x, "x:again 2{again 2{again 2{}}};", 3);
        Due.fine(x, "run()", x.run(), 0);
        Due.fault(x, "x:again 2;", 2, 9);
        Due.fault(x, "x:again 2 go 1;", 2, 10);
        Due.fault(x, "x:{};", 2, 2);
        Due.fault(x, "x:again 2{}};", 2, 11);
        Due.fault(x, "x:[go 1];", 1, 2);
    }

    private static void wholes() {
        Due.says("WHOLE: [-] NUMBER.");
        DrillField x = field();
        well(x, "x:shift 59 59 1;", 1);
        well(x, "x:shift -59 -59 1;", 1);
        well(x, "x:shift - 59 - 59 1;", 1);
        well(x, "x:shift -0 -0 1;", 1);
        Due.fault(x, "x:shift --1 0 1;", 2, 9);
        Due.fault(x, "x:shift - ;", 2, 10);
        Due.fault(x, "x:shift 0 - - 1 1;", 2, 12);
        Due.fault(x, "x:shift 0 0 -1;", 2, 12);
        Due.fault(x, "x:go -1;", 2, 5);
        Due.fault(x, "x:turn -1;", 2, 7);
        Due.fault(x, "x:wheel -1;", 2, 8);
        Due.fault(x, "x:open -2 1;", 2, 7);
        Due.fault(x, "x:again -2{};", 2, 8);
        Due.fault(x, "x:shift -go", 2, 9);
    }

    private static void sides() {
        Due.says("SIDE: left, or right.");
        DrillField x = field();
        well(x, "x:wheel left 1 wheel right 1;", 2);
        Due.fault(x, "x:wheel 1;", 2, 8);
        Due.fault(x, "x:wheel lef 1;", 2, 8);
        Due.fault(x, "x:wheel lefts 1;", 2, 8);
        Due.fault(x, "x:wheel righ 1;", 2, 8);
        Due.fault(x, "x:wheel rights 1;", 2, 8);
        Due.fault(x, "x:wheel go 1;", 2, 8);
        Due.fault(x, "x:wheel x 1;", 2, 8);
        Due.fault(x, "x:wheel left left 1;", 2, 13);
        Due.fault(x, "x:left 1;", 2, 2);
        Due.fault(x, "x:turn left 1;", 2, 7);
    }

    private static void firstAlongTheText() {
        Due.says("FAULTS, the first along the text");
        DrillField x = field();
        Due.fault(x, "x: go 0 ? ;", 4, 6);
        Due.fault(x, "x: ? go 0;", 1, 3);
        Due.fault(x, "z: ?", 3, 0);
        Due.fault(x, "? z:", 1, 0);
        Due.fault(x, "x: } z: go 0", 2, 3);
        Due.fault(x, "x: turn 8 ; x: go 1;", 4, 8);
        Due.fault(x, "x: turn 7 ; x: go 0;", 3, 12);
        Due.fault(x, "x: again 1 { again 2 { again 2 { again 2 {}}}};", 4, 9);
        Due.fault(x, "x: shift 60 60 0", 4, 9);
    }

    private static void leastKind() {
        Due.says("(of one TOKEN the least kind)");
        DrillField x = field();
        // 1 ahead of 2: where no NUMBER can stand; ahead of 4: one that can't be.
        Due.fault(x, "x 1000", 1, 2);
        Due.fault(x, "x: go 1000;", 1, 6);
        Due.fault(x, "x: go 1 ?", 1, 8);
        // 2 ahead of 3: a WORD where no NAME can stand; ahead of 4: a NUMBER where none can.
        Due.fault(x, "x nosuch", 2, 2);
        Due.fault(x, "x: nosuchword", 2, 3);
        Due.fault(x, "x: 0", 2, 3);
        Due.fault(x, "0", 2, 0);
        // 2 ahead of 5, and 5 ahead of 6, of the 61st.
        String sixty = "x:" + "go1".repeat(57) + "again2{again2{again2{";
        Due.fault(x, sixty + "gone 1;", 2, sixty.length());
        Due.fault(x, sixty + "again 2{}}}};", 5, sixty.length());
        Due.fault(x, sixty + "go 0", 5, sixty.length());
        String less = "x:" + "go1".repeat(56) + "again2{again2{again2{";
        Due.fault(x, less + "again 2{}}}};", 6, less.length());
    }

    private static void theEnd() {
        Due.says("2 it can't stand there (the end: the text's length)");
        String[] ends = {"x", "x:", "x:go", "x:go 1", "x:back", "x:turn", "x:wheel", "x:wheel left", "x:open", "x:open 2",
            "x:open 2 1", "x:shift", "x:shift -", "x:shift 1", "x:shift 1 -", "x:shift 1 1", "x:shift 1 1 1", "x:again", "x:again 2",
            "x:again 2{", "x:again 2{go 1", "x:again 2{}", "x:;y", "x:;y:", "x:go 1;y:go 1"};
        for (String end : ends) {
            DrillField x = field();
            Due.fault(x, end, 2, end.length());
            Due.fault(x, end + " \n ", 2, end.length() + 3);
        }
        DrillField x = field();
        well(x, "x:;", 0);
        well(x, "x:; \n ", 0);
    }

    private static void cantStand() {
        Due.says("2 it can't stand there");
        Object[][] texts = {{":", 0}, {";", 0}, {"{", 0}, {"}", 0}, {"-", 0}, {"1", 0}, {"x;", 1}, {"x{", 1}, {"x-", 1}, {"x x", 2},
            {"x 1", 2}, {"x::", 2}, {"x:1", 2}, {"x:{", 2}, {"x:}", 2}, {"x:-", 2}, {"x:x", 2}, {"x:go;", 4}, {"x:go:", 4},
            {"x:go{", 4}, {"x:go}", 4}, {"x:go go", 5}, {"x:go 1 1", 7}, {"x:go 1-", 6}, {"x:go 1{", 6}, {"x:go 1}", 6},
            {"x:go 1:", 6}, {"x:;;", 3}, {"x:;:", 3}, {"x:;1", 3}, {"x:again 2{;", 10}, {"x:again 2{:", 10},
            {"x:again 2{1", 10}, {"x:again 2{{", 10}, {"x:again 2{x", 10}, {"x:again{", 7}, {"x:again 2}", 9}, {"x:again 2:", 9},
            {"x:wheel;", 7}, {"x:wheel left;", 12}, {"x:open;", 6}, {"x:open 2;", 8}, {"x:shift;", 7}, {"x:shift 1;", 9},
            {"x:shift 1 1;", 11}, {"x:shift 1 1 go", 12}};
        for (Object[] t : texts) {
            Due.fault(field(), (String) t[0], 2, (Integer) t[1]);
        }
    }

    private static void noSuchGroup() {
        Due.says("3 no GROUP of that NAME now");
        DrillField x = field();
        Due.fault(x, "w:;", 3, 0);
        Due.fault(x, "xx:;", 3, 0);
        Due.fault(x, "abcdefg:;", 3, 0);
        Due.fault(x, "abcdefgi:;", 3, 0);
        Due.fault(x, "  go: go 1;", 3, 2);
        Due.fault(x, "x: go 1; w", 3, 9);
        DrillField none = new DrillField();
        Due.fault(none, "x", 3, 0);
        well(none, "", 0);
    }

    private static void groupNow() {
        Due.says("3 no GROUP of that NAME now");
        DrillField x = field();
        Due.fault(x, "w: go 1;", 3, 0);
        Due.feed(x, "w: go 1;");
        Due.fine(x, "group w, behind feed and ahead of orders", x.group(Due.word("w"), 1), 3);
        Due.fine(x, "orders(8)", x.orders(8), 1);
    }

    private static void longWords() {
        Due.says("(also a WORD of 9 letters and more)");
        DrillField x = field();
        well(x, "abcdefgh:;", 0);
        String[] words = {"abcdefghi", "aabcdefgh", "abcdefghabcdefgh", "p" + "a".repeat(11) + "x", "x".repeat(20), "p".repeat(12) + "x",
            "a".repeat(13), "abcdefgh".repeat(20)};
        for (String word : words) {
            Due.fault(x, word + ":;", 3, 0);
            Due.fault(x, "x:" + word + " 1;", 2, 2);
            Due.fault(x, "x:wheel " + word + " 1;", 2, 8);
        }
    }

    private static void lineThereAlready() {
        Due.says("a LINE of it there already");
        DrillField x = field();
        Due.fault(x, "x:;x:;", 3, 3);
        Due.fault(x, "x:;y:;abcdefgh:;x", 3, 16);
        Due.fault(x, "x:;y:;abcdefgh:;abcdefgh", 3, 16);
        x.group(Due.word("w"), 1);
        well(x, "x:;w:;", 0);
        well(x, "x:;", 0);
        well(x, "x:;", 0);
    }

    /** Each ORDER with each NUMBER of up to three digits, at each place for one. */
    private static void everyNumber() {
        Due.says("4 a NUMBER that can't be: of go, back, mark, halt, follow, wheel 1 to 99; turn 1 to 7; open, close 2 to 5, "
                + "then 1 to 99; shift 0 to 59 each, then 1 to 99; again 2 to 20.");
        Object[][] forms = {{"go #", 1, 99}, {"back #", 1, 99}, {"mark #", 1, 99}, {"halt #", 1, 99}, {"follow #", 1, 99},
            {"wheel left #", 1, 99}, {"wheel right #", 1, 99}, {"turn #", 1, 7}, {"open # 1", 2, 5}, {"open 2 #", 1, 99},
            {"close # 1", 2, 5}, {"close 5 #", 1, 99}, {"shift # 0 1", 0, 59}, {"shift -# 0 1", 0, 59}, {"shift 0 # 1", 0, 59},
            {"shift 0 -# 1", 0, 59}, {"shift 0 0 #", 1, 99}, {"shift -1 -1 #", 1, 99}, {"again # {}", 2, 20}};
        for (Object[] form : forms) {
            DrillField x = field();
            for (int number = 0; number <= 1001; number++) {
                x = number % 60 == 0 ? field() : x;
                String text = "x:" + ((String) form[0]).replace("#", String.valueOf(number)) + ";";
                if (number >= (Integer) form[1] && number <= (Integer) form[2]) {
                    well(x, text, 1);
                } else {
                    Due.fault(x, text, number > 999 ? 1 : 4, 2 + ((String) form[0]).indexOf('#'));
                }
            }
        }
    }

    private static void sixtyOrders() {
        Due.says("5 a 61st ORDER (at its WORD).");
        DrillField x = field();
        well(x, "x:" + "go1".repeat(60) + ";", 60);
        Due.fault(x, "x:" + "go1".repeat(61) + ";", 5, 182);
        well(x, "x:" + "go1".repeat(30) + ";y:" + "go1".repeat(30) + ";", 60);
        Due.fault(x, "x:" + "go1".repeat(30) + ";y:" + "go1".repeat(31) + ";", 5, 185);
        well(x, "x:again 2{" + "go1".repeat(59) + "};", 60);
        Due.fault(x, "x:again 2{" + "go1".repeat(60) + "};", 5, 187);
        well(x, "x:" + "again2{}".repeat(60) + ";", 60);
        Due.fault(x, "x:" + "again2{}".repeat(60) + "turn;", 5, 482);
        well(x, "x:" + "go1".repeat(60) + ";y:;abcdefgh:;", 60);
        well(x, "x:go1;", 1);
    }

    private static void againWithin() {
        Due.says("6 an again within three others (at its WORD).");
        DrillField x = field();
        well(x, "x:again 2{again 2{again 2{go 1}}};", 4);
        Due.fault(x, "x:again 2{again 2{again 2{again 2{}}}};", 6, 26);
        Due.fault(x, "x:again 2{again 2{again 2{ go 1 again", 6, 32);
        well(x, "x:again 2{again 2{again 2{}again 2{}}again 2{again 2{}}};", 6);
        well(x, "x:again 2{again 2{again 2{}}}again 2{again 2{again 2{}}};y:again 2{again 2{again 2{}}};", 9);
        Due.fault(x, "x:again 2{again 2{again 2{}again 2{again 2{}}}};", 6, 35);
    }

    private static void textStays() {
        Due.says("how many ORDERS, those within others too (5: n; 10: the TEXT stays).");
        DrillField x = field();
        well(x, "x: go 3;", 1);
        Due.fault(x, "x: go 5; y: go 7; w", 3, 18);
        Due.fine(x, "run() of the TEXT ahead", x.run(), 3);
        Due.refused(x, "orders(1)", x.orders(1), 5);
        Due.fine(x, "run() of the TEXT ahead", x.run(), 3);
        well(x, "x: go 5 again 2 { go 1 };", 3);
        Due.fine(x, "run() of the next TEXT", x.run(), 7);
        well(x, "", 0);
        Due.fine(x, "run() of an empty TEXT", x.run(), 0);
        DrillField y = field();
        Due.fault(y, "x: go 3", 2, 7);
        Due.refused(y, "run(): a TEXT with a FAULT is none", y.run(), 8);
    }

    private static void faultAsked() {
        Due.says("Of the latest orders() with STATUS 0 or 10, what 0: the FAULT (0 without one), 1: its place (NONE without). "
                + "NONE for others, and ahead of any.");
        DrillField x = field();
        int[] others = {-1, 2, 3, Integer.MIN_VALUE, Integer.MAX_VALUE};
        for (int what = 0; what < 2; what++) {
            Due.is("fault(" + what + ") ahead of any", x.fault(what), -1);
        }
        x.orders(1);
        Due.is("fault(0) ahead of any but a refused one", x.fault(0), -1);
        Due.is("fault(1) ahead of any but a refused one", x.fault(1), -1);
        Due.fault(x, " x: ?", 1, 4);
        for (int what : others) {
            Due.is("fault(" + what + ")", x.fault(what), -1);
        }
        x.orders(99);
        Due.is("fault(0) behind STATUS 5", x.fault(0), 1);
        Due.is("fault(1) behind STATUS 5", x.fault(1), 4);
        well(x, "x:;", 0);
        for (int what : others) {
            Due.is("fault(" + what + ")", x.fault(what), -1);
        }
        x.orders(99);
        Due.is("fault(0) behind STATUS 5", x.fault(0), 0);
        Due.is("fault(1) behind STATUS 5", x.fault(1), -1);
        Due.fault(x, "?", 1, 0);
        Due.fine(x, "run() of the TEXT that stayed", x.run(), 0);
        Due.is("fault(0) behind run()", x.fault(0), 1);
    }
}
