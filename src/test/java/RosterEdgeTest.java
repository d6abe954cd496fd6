import java.util.Arrays;

/** Boundary cases of the promises 26 to 29, each under the sentence of the document that names it. */
public final class RosterEdgeTest {
    public static void main(String[] args) {
        personsAtMost();
        personSets();
        awayAtMost();
        awayPersons();
        awayDays();
        fromAndTo();
        knownNeverBack();
        daysOfAway();
        knownOfAway();
        filledAsked();
        whoAsked();
        eachOnePart();
        asManyAsCanBe();
        lesserPerson();
        noneBehindAll();
        marchersThatCome();
        Due.end("RosterEdgeTest");
    }

    private static DrillField field(int marchers, int... knows) {
        DrillField x = new DrillField();
        for (int i = 0; i < marchers; i++) {
            x.marcher(i, i, 0);
        }
        for (int set : knows) {
            x.person(set);
        }
        return x;
    }

    /** Who fills each part (NONE: none), and so how many are FILLED. */
    private static void fillers(DrillField x, int day, int known, int... want) {
        int parts = 0;
        for (int m = 0; m < want.length; m++) {
            String call = "who(" + m + ", " + day + ", " + known + ")";
            if (want[m] < 0) {
                Due.refused(x, call, x.who(m, day, known), 8);
            } else {
                parts++;
                Due.fine(x, call, x.who(m, day, known), want[m]);
            }
        }
        Due.fine(x, "filled(" + day + ", " + known + ")", x.filled(day, known), parts);
    }

    private static void personsAtMost() {
        Due.says("PERSONS, at most 16, numbered as they come");
        DrillField x = field(20);
        for (int p = 0; p < 16; p++) {
            Due.fine(x, "person " + p, x.person(1 << p), p);
        }
        Due.refused(x, "a 17th", x.person(1 << 16), 7);
        Due.refused(x, "a 17th who knows none", x.person(0), 7);
        int[] want = new int[20];
        for (int m = 0; m < 20; m++) {
            want[m] = m < 16 ? m : -1;
        }
        fillers(x, 0, 0, want);
    }

    private static void personSets() {
        Due.says("A PERSON more: its number (5: bits of no MARCHER; 7).");
        DrillField none = new DrillField();
        Due.range(none, "person of a set of no MARCHERS", 0, 0, 5, none::person);
        DrillField x = field(3);
        Due.range(x, "person of a set of three's", 0, 7, 5, x::person);
        Due.refused(x, "a bit of a MARCHER and one of none", x.person(9), 5);
        Due.refused(x, "the highest bit and one of a MARCHER", x.person(Integer.MIN_VALUE | 1), 5);
        Due.fine(x, "the next one's number", x.person(4), 2);
        DrillField full = field(20);
        Due.range(full, "person of a set of twenty's", 0, (1 << 20) - 1, 5, full::person);
    }

    private static void awayAtMost() {
        Due.says("AWAY, at most 60");
        DrillField x = field(1, 1, 1);
        for (int i = 0; i < 60; i++) {
            Due.fine(x, "away " + i, x.away(0, 100 + i, 100 + i, 0));
        }
        Due.refused(x, "a 61st", x.away(1, 5, 5, 0), 7);
        Due.refused(x, "a 61st, the same as one that is there", x.away(0, 100, 100, 0), 7);
        fillers(x, 99, 0, 0);
        fillers(x, 100, 0, 1);
        fillers(x, 159, 0, 1);
        fillers(x, 160, 0, 0);
        fillers(x, 5, 0, 0);
        x.away(0, 5, 5, 0);
        fillers(x, 5, 0, 0);
    }

    private static void awayPersons() {
        Due.says("A PERSON is AWAY (2; 5: also from behind to; 7; 12).");
        DrillField none = field(1);
        Due.refused(none, "away(0, 0, 0, 0): no PERSONS", none.away(0, 0, 0, 0), 2);
        DrillField x = field(1, 1, 1, 1);
        Due.rangeYes(x, "away of a PERSON", 0, 2, 2, p -> x.away(p, 7, 7, 0));
        fillers(x, 7, 0, 1);
        DrillField full = field(1);
        for (int p = 0; p < 16; p++) {
            full.person(1);
        }
        Due.rangeYes(full, "away of one of sixteen", 0, 15, 2, p -> full.away(p, 7, 7, 0));
    }

    private static void awayDays() {
        Due.says("from a day to a day (0 to 9,999), KNOWN on a day (0 to 9,999; these days never go back)");
        DrillField x = field(1, 1);
        Due.rangeYes(x, "away from", 0, 9999, 5, from -> x.away(0, from, Math.max(from, 9999), 0));
        Due.rangeYes(x, "away to", 0, 9999, 5, to -> x.away(0, Math.min(to, 0), to, 0));
        Due.rangeYes(x, "away known", 0, 9999, 5, known -> x.away(0, 5, 5, known));
        Due.refused(x, "away(0, -1, -1, 9999)", x.away(0, -1, -1, 9999), 5);
        Due.refused(x, "away(0, 10000, 10000, 9999)", x.away(0, 10000, 10000, 9999), 5);
    }

    private static void fromAndTo() {
        Due.says("5: also from behind to");
        DrillField x = field(1, 1, 1);
        Due.fine(x, "away(0, 5, 5, 0): a day", x.away(0, 5, 5, 0));
        Due.refused(x, "away(1, 6, 5, 0)", x.away(1, 6, 5, 0), 5);
        Due.refused(x, "away(1, 9999, 0, 0)", x.away(1, 9999, 0, 0), 5);
        Due.fine(x, "away(0, 0, 9999, 0): all days", x.away(0, 0, 9999, 0));
        fillers(x, 0, 0, 1);
        fillers(x, 5, 0, 1);
        fillers(x, 9999, 0, 1);
    }

    private static void knownNeverBack() {
        Due.says("(0 to 9,999; these days never go back)");
        DrillField x = field(1, 1, 1);
        Due.fine(x, "away known on 3", x.away(0, 1, 1, 3));
        Due.fine(x, "the same day again", x.away(0, 2, 2, 3));
        Due.refused(x, "a day sooner", x.away(0, 3, 3, 2), 12);
        Due.refused(x, "a day sooner, of another PERSON", x.away(1, 3, 3, 2), 12);
        Due.refused(x, "day 0", x.away(0, 3, 3, 0), 12);
        Due.fine(x, "the same day still", x.away(0, 4, 4, 3));
        Due.refused(x, "a refused one with a later day", x.away(0, 5, 4, 9), 5);
        Due.fine(x, "its day did not count", x.away(0, 5, 5, 4));
        Due.fine(x, "filled as known later", x.filled(1, 9999), 1);
        Due.fine(x, "days that are asked don't count", x.away(0, 6, 6, 4));
        Due.fine(x, "the last day", x.away(0, 7, 7, 9999));
        Due.refused(x, "the day ahead of it", x.away(0, 8, 8, 9998), 12);
        Due.fine(x, "the last day again", x.away(0, 8, 8, 9999));
        fillers(x, 3, 9999, 0);
        fillers(x, 8, 9999, 1);
    }

    private static void daysOfAway() {
        Due.says("AWAY, at most 60: from a day to a day");
        DrillField x = field(1, 1);
        x.away(0, 10, 12, 0);
        fillers(x, 9, 0, 0);
        fillers(x, 10, 0, -1);
        fillers(x, 11, 0, -1);
        fillers(x, 12, 0, -1);
        fillers(x, 13, 0, 0);
        x.away(0, 12, 13, 0);
        fillers(x, 13, 0, -1);
        fillers(x, 14, 0, 0);
        x.away(0, 0, 0, 0);
        x.away(0, 9999, 9999, 0);
        fillers(x, 0, 0, -1);
        fillers(x, 1, 0, 0);
        fillers(x, 9998, 0, 0);
        fillers(x, 9999, 0, -1);
    }

    private static void knownOfAway() {
        Due.says("FILLED on a day as known on one");
        DrillField x = field(1, 1);
        x.away(0, 5, 5, 3);
        x.away(0, 6, 6, 9999);
        fillers(x, 5, 2, 0);
        fillers(x, 5, 3, -1);
        fillers(x, 5, 4, -1);
        fillers(x, 5, 9999, -1);
        fillers(x, 5, 0, 0);
        fillers(x, 6, 9998, 0);
        fillers(x, 6, 9999, -1);
    }

    private static void filledAsked() {
        Due.says("How many parts are FILLED (5).");
        DrillField x = field(1, 1);
        Due.range(x, "filled on a day", 0, 9999, 5, day -> x.filled(day, 0));
        Due.range(x, "filled as known on a day", 0, 9999, 5, known -> x.filled(0, known));
        Due.refused(x, "filled(-1, -1)", x.filled(-1, -1), 5);
        DrillField none = new DrillField();
        Due.fine(none, "no MARCHERS, no PERSONS", none.filled(0, 0), 0);
        fillers(field(3), 0, 0, -1, -1, -1);
        DrillField idle = new DrillField();
        idle.person(0);
        Due.fine(idle, "no MARCHERS", idle.filled(0, 0), 0);
    }

    private static void whoAsked() {
        Due.says("The PERSON who fills a MARCHER's part (2; 5; 8: none).");
        DrillField x = field(2, 3, 3);
        Due.range(x, "who of a MARCHER", 0, 1, 2, m -> x.who(m, 0, 0));
        Due.range(x, "who on a day", 0, 9999, 5, day -> x.who(0, day, 0));
        Due.range(x, "who as known on a day", 0, 9999, 5, known -> x.who(0, 0, known));
        Due.refused(x, "who(2, -1, 10000): 2 ahead of 5", x.who(2, -1, 10000), 2);
        x.away(0, 0, 9999, 0);
        x.away(1, 0, 9999, 0);
        Due.refused(x, "who(0, 0, 0): all are AWAY", x.who(0, 0, 0), 8);
        Due.refused(x, "who(0, 10000, 0): 5 ahead of 8", x.who(0, 10000, 0), 5);
        Due.refused(x, "who(2, 0, 0): 2 ahead of 8", x.who(2, 0, 0), 2);
    }

    private static void eachOnePart() {
        Due.says("by PERSONS who KNOW them and are not AWAY, each one part");
        fillers(field(3, 0b111), 0, 0, 0, -1, -1);
        fillers(field(3, 0b111, 0b111), 0, 0, 0, 1, -1);
        fillers(field(1, 1, 1, 1), 0, 0, 0);
        fillers(field(2, 0b01, 0b01), 0, 0, 0, -1);
        fillers(field(2, 0, 0), 0, 0, -1, -1);
        DrillField last = field(20, 1 << 19);
        int[] want = new int[20];
        Arrays.fill(want, -1);
        want[19] = 0;
        fillers(last, 0, 0, want);
    }

    private static void asManyAsCanBe() {
        Due.says("as many as can be");
        // The first PERSON knows both, the other the first part alone.
        fillers(field(2, 0b11, 0b01), 0, 0, 1, 0);
        // A chain of four has to give way.
        fillers(field(4, 0b0011, 0b0110, 0b1100, 0b0001), 0, 0, 3, 0, 1, 2);
        // A chain through all sixteen: PERSON p knows p and p + 1, the last one 0 alone.
        DrillField x = field(16);
        for (int p = 0; p < 15; p++) {
            x.person(3 << p);
        }
        x.person(1);
        int[] want = new int[16];
        for (int m = 0; m < 16; m++) {
            want[m] = m == 0 ? 15 : m - 1;
        }
        fillers(x, 0, 0, want);
        x.away(15, 3, 3, 0);
        for (int m = 0; m < 16; m++) {
            want[m] = m == 15 ? -1 : m;
        }
        fillers(x, 3, 0, want);
    }

    private static void lesserPerson() {
        Due.says("of several the first: MARCHER by MARCHER the lesser PERSON");
        fillers(field(2, 0b11, 0b11), 0, 0, 0, 1);
        fillers(field(2, 0b10, 0b11, 0b11), 0, 0, 1, 0);
        fillers(field(3, 0b110, 0b011, 0b101), 0, 0, 1, 0, 2);
        fillers(field(2, 0, 0b11, 0, 0b11), 0, 0, 1, 3);
        // 2 has none but PERSON 0, so 0 has to take the next one, and 1 the one behind.
        fillers(field(3, 0b101, 0b011, 0b001, 0b011), 0, 0, 1, 3, 0);
        fillers(field(3, 0b101, 0b110, 0b011, 0b011, 0b001), 0, 0, 0, 2, 1);
        // 2 would have PERSON 2 or 4, but both are needed behind it: the choices tried go back.
        fillers(field(6, 0b100011, 0b001001, 0b111100, 0b010110, 0b111100, 0b000100, 0b001011), 0, 0, 0, 3, 5, 1, 2, 4);
        // A lesser PERSON comes free only when a MARCHER ahead is settled.
        fillers(field(4, 0b1001, 0b0001, 0b0110, 0b0010), 0, 0, 1, 3, 2, 0);
        fillers(field(5, 0b01001, 0b10010, 0b01100, 0b00011, 0b00110, 0b00100), 0, 0, 0, 3, 4, 2, 1);
        DrillField x = field(2, 0b11, 0b11, 0b11);
        x.away(0, 1, 1, 0);
        fillers(x, 1, 0, 1, 2);
        fillers(x, 2, 0, 0, 1);
    }

    private static void noneBehindAll() {
        Due.says("none behind all");
        fillers(field(2, 0b11), 0, 0, 0, -1);
        fillers(field(3, 0b110), 0, 0, -1, 0, -1);
        // MARCHER 0 has the greatest PERSON rather than none.
        DrillField x = field(2);
        for (int p = 0; p < 15; p++) {
            x.person(0);
        }
        x.person(0b11);
        fillers(x, 0, 0, 15, -1);
        // 0 by 0 and 1 by none (2 by 1), ahead of 0 by 1.
        fillers(field(3, 0b011, 0b101), 0, 0, 0, -1, 1);
    }

    private static void marchersThatCome() {
        Due.says("each with a set of MARCHERS whose part it KNOWS");
        DrillField x = field(1, 1);
        x.marcher(9, 9, 0);
        fillers(x, 0, 0, 0, -1);
        Due.fine(x, "person who knows the new one", x.person(2), 1);
        fillers(x, 0, 0, 0, 1);
    }
}
