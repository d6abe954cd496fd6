/** Promises 1 to 6: a new object, status, tray, write, read, pour. */
public final class TrayTest {
    public static void main(String[] args) {
        newObject();
        tray();
        writeAndRead();
        pour();
        Due.end("TrayTest");
    }

    private static void newObject() {
        DrillField x = new DrillField();
        Due.is("status()", x.status(), 0);
        Due.is("upper()", x.upper(), 0);
        Due.is("lower()", x.lower(), 1);
        Due.is("fault(0)", x.fault(0), -1);
        Due.is("fault(1)", x.fault(1), -1);
        Due.is("error(0)", x.error(0), -1);
        Due.is("error(1)", x.error(1), -1);
        Due.is("status() behind calls without one", x.status(), 0);
        for (int t = 0; t < 4; t++) {
            Due.refused(x, "read(" + t + ", 0)", x.read(t, 0), 3);
        }
        Due.refused(x, "run()", x.run(), 8);
        Due.refused(x, "told(0)", x.told(0), 8);
        Due.refused(x, "group(1, 1)", x.group(1, 1), 5);
        Due.refused(x, "person(1)", x.person(1), 5);
        Due.refused(x, "away(0, 0, 0, 0)", x.away(0, 0, 0, 0), 2);
        Due.refused(x, "path(0, 0, 0, 0)", x.path(0, 0, 0, 0), 2);
        Due.refused(x, "total(0)", x.total(0), 8);
        Due.refused(x, "orders(1) of an empty tape", x.orders(1), 5);
        Due.is("the first feed", x.feed(0, 0, 0, 0, 0), 20);
    }

    private static void tray() {
        DrillField x = new DrillField();
        Due.refused(x, "tray(-1, 0, 1)", x.tray(-1, 0, 1), 1);
        Due.refused(x, "tray(4, 0, 1)", x.tray(4, 0, 1), 1);
        Due.refused(x, "tray(0, -1, 1)", x.tray(0, -1, 1), 1);
        Due.refused(x, "tray(0, 4, 1)", x.tray(0, 4, 1), 1);
        Due.refused(x, "tray(4, 0, 41): 1 ahead of 5", x.tray(4, 0, 41), 1);
        Due.refused(x, "tray(0, 4, -1): 1 ahead of 6", x.tray(0, 4, -1), 1);
        Due.refused(x, "tray(0, 0, 41)", x.tray(0, 0, 41), 5);
        Due.refused(x, "tray(0, 0, 2147483647)", x.tray(0, 0, Integer.MAX_VALUE), 5);
        Due.refused(x, "tray(0, 0, -1)", x.tray(0, 0, -1), 6);
        Due.refused(x, "tray(0, 0, -2147483648)", x.tray(0, 0, Integer.MIN_VALUE), 6);
        Due.refused(x, "read(0, 0): still MISSING", x.read(0, 0), 3);
        Due.fine(x, "tray(0, 0, 0)", x.tray(0, 0, 0));
        Due.refused(x, "read(0, 0) of none", x.read(0, 0), 4);
        Due.fine(x, "tray(3, 3, 40)", x.tray(3, 3, 40));
        Due.fine(x, "read(3, 39)", x.read(3, 39), 0);
        Due.fine(x, "write(3, 39, 5)", x.write(3, 39, 5));
        Due.refused(x, "tray(3, 3, 41)", x.tray(3, 3, 41), 5);
        Due.fine(x, "read(3, 39) behind a refusal", x.read(3, 39), 5);
        Due.fine(x, "tray(3, 0, 40) anew", x.tray(3, 0, 40));
        Due.fine(x, "read(3, 39) anew", x.read(3, 39), 0);
        Due.fine(x, "write(3, 39, 200)", x.write(3, 39, 200));
        Due.fine(x, "read(3, 39) of the new sort", x.read(3, 39), -56);
    }

    private static void writeAndRead() {
        DrillField x = new DrillField();
        long[][] cut = {
            {0, 127, 127}, {0, 128, -128}, {0, 255, -1}, {0, 256, 0}, {0, -129, 127},
            {1, 32767, 32767}, {1, 32768, -32768}, {1, 65535, -1}, {1, 65536, 0},
            {2, 2147483647L, 2147483647L}, {2, 2147483648L, -2147483648L}, {2, 1L << 32, 0},
            {3, Long.MAX_VALUE, Long.MAX_VALUE}, {3, Long.MIN_VALUE, Long.MIN_VALUE}, {3, -1, -1}};
        for (long[] c : cut) {
            x.tray(1, (int) c[0], 2);
            Due.fine(x, "write(1, 1, " + c[1] + ")", x.write(1, 1, c[1]));
            Due.fine(x, "read(1, 1) of sort " + c[0], x.read(1, 1), c[2]);
            Due.fine(x, "read(1, 0)", x.read(1, 0), 0);
        }
        Due.refused(x, "write(4, 0, 1)", x.write(4, 0, 1), 1);
        Due.refused(x, "write(-1, 0, 1)", x.write(-1, 0, 1), 1);
        Due.refused(x, "write(0, 0, 1)", x.write(0, 0, 1), 3);
        Due.refused(x, "write(0, 9, 1): 3 ahead of 4", x.write(0, 9, 1), 3);
        Due.refused(x, "write(1, 2, 1)", x.write(1, 2, 1), 4);
        Due.refused(x, "write(1, -1, 1)", x.write(1, -1, 1), 4);
        Due.refused(x, "read(4, 0)", x.read(4, 0), 1);
        Due.refused(x, "read(0, 0)", x.read(0, 0), 3);
        Due.refused(x, "read(1, 2)", x.read(1, 2), 4);
        Due.refused(x, "read(1, 2147483647)", x.read(1, Integer.MAX_VALUE), 4);
        Due.refused(x, "read(1, -2147483648)", x.read(1, Integer.MIN_VALUE), 4);
        Due.fine(x, "read(1, 1) behind refusals", x.read(1, 1), -1);
    }

    private static void pour() {
        DrillField x = new DrillField();
        x.tray(0, 1, 5);
        x.tray(1, 1, 3);
        x.tray(2, 2, 5);
        for (int i = 0; i < 5; i++) {
            x.write(0, i, i + 1);
        }
        Due.refused(x, "pour(4, 0, 0, 0, 1)", x.pour(4, 0, 0, 0, 1), 1);
        Due.refused(x, "pour(0, 0, -1, 0, 1)", x.pour(0, 0, -1, 0, 1), 1);
        Due.refused(x, "pour(3, 0, 4, 0, 1): 1 ahead of 3", x.pour(3, 0, 4, 0, 1), 1);
        Due.refused(x, "pour(3, 0, 0, 0, 1)", x.pour(3, 0, 0, 0, 1), 3);
        Due.refused(x, "pour(0, 0, 3, 0, -1): 3 ahead of 6", x.pour(0, 0, 3, 0, -1), 3);
        Due.refused(x, "pour(0, 0, 2, 0, 1)", x.pour(0, 0, 2, 0, 1), 11);
        Due.refused(x, "pour(0, 0, 2, 0, -1): 11 ahead of 6", x.pour(0, 0, 2, 0, -1), 11);
        Due.refused(x, "pour(0, 0, 2, 9, 1): 11 ahead of 4", x.pour(0, 0, 2, 9, 1), 11);
        Due.refused(x, "pour(0, 0, 1, 0, -1)", x.pour(0, 0, 1, 0, -1), 6);
        Due.refused(x, "pour(0, 9, 1, 0, -1): 6 ahead of 4", x.pour(0, 9, 1, 0, -1), 6);
        Due.refused(x, "pour(0, 0, 1, 0, 4)", x.pour(0, 0, 1, 0, 4), 4);
        Due.refused(x, "pour(0, 3, 1, 0, 3)", x.pour(0, 3, 1, 0, 3), 4);
        Due.refused(x, "pour(0, -1, 1, 0, 1)", x.pour(0, -1, 1, 0, 1), 4);
        Due.refused(x, "pour(0, 0, 1, -1, 1)", x.pour(0, 0, 1, -1, 1), 4);
        Due.refused(x, "pour(0, 6, 1, 0, 0)", x.pour(0, 6, 1, 0, 0), 4);
        Due.refused(x, "a huge pour", x.pour(0, 1, 1, 1, Integer.MAX_VALUE), 4);
        Due.fine(x, "read(1, 0) behind refusals", x.read(1, 0), 0);
        Due.fine(x, "pour(0, 2, 1, 0, 3)", x.pour(0, 2, 1, 0, 3));
        Due.fine(x, "read(1, 0)", x.read(1, 0), 3);
        Due.fine(x, "read(1, 2)", x.read(1, 2), 5);
        Due.fine(x, "pour(0, 0, 0, 1, 4): as they were", x.pour(0, 0, 0, 1, 4));
        long[] want = {1, 1, 2, 3, 4};
        for (int i = 0; i < 5; i++) {
            Due.fine(x, "read(0, " + i + ")", x.read(0, i), want[i]);
        }
        Due.fine(x, "pour(0, 1, 0, 0, 4): the other way", x.pour(0, 1, 0, 0, 4));
        long[] back = {1, 2, 3, 4, 4};
        for (int i = 0; i < 5; i++) {
            Due.fine(x, "read(0, " + i + ")", x.read(0, i), back[i]);
        }
        Due.fine(x, "pour(0, 0, 1, 0, 0)", x.pour(0, 0, 1, 0, 0));
        Due.fine(x, "read(1, 0) behind none", x.read(1, 0), 3);
    }
}
