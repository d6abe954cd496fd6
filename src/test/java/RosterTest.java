/** Promises 26 to 29: person, away, filled, who. */
public final class RosterTest {
    public static void main(String[] args) {
        person();
        away();
        days();
        firstOfSeveral();
        full();
        Due.end("RosterTest");
    }

    private static DrillField field(int marchers, int... knows) {
        DrillField x = new DrillField();
        for (int i = 0; i < marchers; i++) {
            x.marcher(i, i, 0);
        }
        for (int set : knows) {
            x.person(set);
        }
        return x;
    }

    private static void fillers(DrillField x, int day, int known, int... want) {
        int parts = 0;
        for (int m = 0; m < want.length; m++) {
            String call = "who(" + m + ", " + day + ", " + known + ")";
            if (want[m] < 0) {
                Due.refused(x, call, x.who(m, day, known), 8);
            } else {
                parts++;
                Due.fine(x, call, x.who(m, day, known), want[m]);
            }
        }
        Due.fine(x, "filled(" + day + ", " + known + ")", x.filled(day, known), parts);
    }

    private static void person() {
        DrillField x = field(2);
        Due.refused(x, "person(4)", x.person(4), 5);
        Due.refused(x, "person(-1)", x.person(-1), 5);
        Due.refused(x, "person(-2147483648)", x.person(Integer.MIN_VALUE), 5);
        Due.fine(x, "person(0): the empty set", x.person(0), 0);
        for (int i = 1; i < 16; i++) {
            Due.fine(x, "person " + i, x.person(3), i);
        }
        Due.refused(x, "a 17th with bits of none: 5 ahead of 7", x.person(4), 5);
        Due.refused(x, "a 17th", x.person(3), 7);
        fillers(x, 0, 0, 1, 2);
        x.marcher(9, 9, 9);
        x.marcher(9, 9, 0);
        fillers(x, 0, 0, 1, 2, -1);
    }

    private static void away() {
        DrillField x = field(1, 1, 1);
        Due.refused(x, "away(-1, 9, 1, 1): 2 ahead of 5", x.away(-1, 9, 1, 1), 2);
        Due.refused(x, "away(2, 1, 1, 1)", x.away(2, 1, 1, 1), 2);
        int[][] wrong = {{-1, 1, 1}, {1, 10000, 1}, {1, 1, -1}, {1, 1, 10000}, {2, 1, 1}, {10000, 10000, 1}};
        for (int[] w : wrong) {
            Due.refused(x, "away of days that can't be", x.away(0, w[0], w[1], w[2]), 5);
        }
        Due.fine(x, "away(0, 0, 9999, 5)", x.away(0, 0, 9999, 5));
        Due.refused(x, "away(0, 5, 5, 4)", x.away(0, 5, 5, 4), 12);
        Due.refused(x, "away(1, 6, 5, 4): 5 ahead of 12", x.away(1, 6, 5, 4), 5);
        Due.refused(x, "away(1, 5, 5, 4): of all PERSONS", x.away(1, 5, 5, 4), 12);
        Due.fine(x, "away(1, 5, 5, 5)", x.away(1, 5, 5, 5));
        fillers(x, 5, 5, -1);
        fillers(x, 5, 4, 0);
        fillers(x, 4, 5, 1);
        for (int i = 2; i < 60; i++) {
            Due.fine(x, "away " + i, x.away(0, i, i, 5));
        }
        Due.refused(x, "a 61st that can't be: 5 ahead of 7", x.away(0, 1, 0, 5), 5);
        Due.refused(x, "a 61st on a day that is gone: 7 ahead of 12", x.away(1, 0, 0, 4), 7);
        Due.refused(x, "a 61st", x.away(1, 0, 9999, 9), 7);
        fillers(x, 4, 9, 1);
    }

    private static void days() {
        DrillField x = field(1, 1);
        x.away(0, 10, 20, 7);
        x.away(0, 30, 30, 9999);
        Due.refused(x, "filled(-1, 0)", x.filled(-1, 0), 5);
        Due.refused(x, "filled(10000, 0)", x.filled(10000, 0), 5);
        Due.refused(x, "filled(0, -1)", x.filled(0, -1), 5);
        Due.refused(x, "filled(0, 10000)", x.filled(0, 10000), 5);
        Due.refused(x, "who(1, -1, 0): 2 ahead of 5", x.who(1, -1, 0), 2);
        Due.refused(x, "who(-1, 0, 0)", x.who(-1, 0, 0), 2);
        Due.refused(x, "who(0, -1, 0)", x.who(0, -1, 0), 5);
        Due.refused(x, "who(0, 0, 10000)", x.who(0, 0, 10000), 5);
        fillers(x, 9, 7, 0);
        fillers(x, 10, 7, -1);
        fillers(x, 20, 7, -1);
        fillers(x, 21, 7, 0);
        fillers(x, 15, 6, 0);
        fillers(x, 15, 8, -1);
        fillers(x, 30, 9998, 0);
        fillers(x, 30, 9999, -1);
        fillers(x, 0, 0, 0);
        fillers(x, 9999, 9999, 0);
    }

    private static void firstOfSeveral() {
        // 0 must leave PERSON 0 to 1, who has no other.
        fillers(field(2, 0b11, 0b01), 0, 0, 1, 0);
        // 0 takes the least, and a later one the part of 1: as many, and the first.
        fillers(field(3, 0b011, 0b101), 0, 0, 0, -1, 1);
        // One more is worth more than the lesser PERSON.
        fillers(field(3, 0b111, 0b001, 0b010), 0, 0, 1, 2, 0);
        // A chain of three is moved on by one.
        fillers(field(4, 0b0011, 0b0110, 0b1100, 0b0001), 0, 0, 3, 0, 1, 2);
        // None is behind all: the first MARCHER has one where one can be.
        fillers(field(2, 0b11), 0, 0, 0, -1);
        fillers(field(2, 0b10), 0, 0, -1, 0);
        fillers(field(3, 0, 0b111, 0b111), 0, 0, 1, 2, -1);
        fillers(field(3), 0, 0, -1, -1, -1);
        fillers(field(0), 0, 0);
        fillers(field(3, 0b111, 0b111, 0b111), 0, 0, 0, 1, 2);
        // A lesser PERSON comes free only when a MARCHER ahead is settled.
        fillers(field(5, 0b01001, 0b10010, 0b01100, 0b00011, 0b00110, 0b00100), 0, 0, 0, 3, 4, 2, 1);
        fillers(field(4, 0b1001, 0b0001, 0b0110, 0b0010), 0, 0, 1, 3, 2, 0);
    }

    private static void full() {
        DrillField x = field(20);
        for (int p = 0; p < 16; p++) {
            x.person((1 << 20) - 1);
        }
        int[] want = new int[20];
        for (int m = 0; m < 20; m++) {
            want[m] = m < 16 ? m : -1;
        }
        fillers(x, 3, 3, want);
        x.away(0, 3, 3, 3);
        for (int m = 0; m < 20; m++) {
            want[m] = m < 15 ? m + 1 : -1;
        }
        fillers(x, 3, 3, want);
    }
}
