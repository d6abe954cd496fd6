/** Promises 7 to 10: marcher, prop, group, steps. */
public final class FieldTest {
    public static void main(String[] args) {
        marcher();
        prop();
        group();
        steps();
        Due.end("FieldTest");
    }

    private static void marcher() {
        DrillField x = new DrillField();
        int[][] wrong = {{-1, 0, 0}, {60, 0, 0}, {0, -1, 0}, {0, 40, 0}, {0, 0, -1}, {0, 0, 8},
            {Integer.MIN_VALUE, 0, 0}, {0, Integer.MAX_VALUE, 0}, {0, 0, Integer.MAX_VALUE}};
        for (int[] w : wrong) {
            Due.refused(x, "marcher off", x.marcher(w[0], w[1], w[2]), 5);
        }
        Due.fine(x, "marcher(59, 39, 7)", x.marcher(59, 39, 7), 0);
        for (int i = 1; i < 20; i++) {
            Due.fine(x, "marcher " + i, x.marcher(0, 0, 0), i);
        }
        Due.refused(x, "a 21st off the ground: 5 ahead of 7", x.marcher(60, 0, 0), 5);
        Due.refused(x, "a 21st", x.marcher(1, 1, 1), 7);
        Due.fine(x, "group of the 20th", x.group(1, 1 << 19), 0);
        Due.refused(x, "group of a 21st", x.group(2, 1 << 20), 5);
        Due.is("run of no orders", Due.runOf(x, ""), 0);
        Due.fine(x, "at(0, 0, 0)", x.at(0, 0, 0), 59);
        Due.fine(x, "at(0, 0, 1)", x.at(0, 0, 1), 39);
        Due.fine(x, "at(0, 0, 2)", x.at(0, 0, 2), 7);
        Due.refused(x, "at(0, 20, 0)", x.at(0, 20, 0), 2);
    }

    private static void prop() {
        DrillField x = new DrillField();
        Due.refused(x, "prop(-1, 0)", x.prop(-1, 0), 5);
        Due.refused(x, "prop(60, 0)", x.prop(60, 0), 5);
        Due.refused(x, "prop(0, -1)", x.prop(0, -1), 5);
        Due.refused(x, "prop(0, 40)", x.prop(0, 40), 5);
        Due.fine(x, "prop(59, 39)", x.prop(59, 39));
        Due.refused(x, "prop(59, 39) again", x.prop(59, 39), 9);
        for (int i = 1; i < 30; i++) {
            Due.fine(x, "prop(" + i + ", 0)", x.prop(i, 0));
        }
        Due.refused(x, "a 31st off the ground: 5 ahead of 7", x.prop(60, 0), 5);
        Due.refused(x, "a 31st, there already: 7 ahead of 9", x.prop(59, 39), 7);
        Due.refused(x, "a 31st", x.prop(40, 0), 7);
        x.marcher(39, 0, 2);
        x.group(1, 1);
        Due.is("run", Due.runOf(x, "a: go 2;"), 2);
        Due.fine(x, "told(1): no PROP was refused and kept", x.told(1), 0);
    }

    private static void group() {
        DrillField x = new DrillField();
        x.marcher(5, 5, 0);
        x.marcher(6, 5, 0);
        long[] noNames = {0, -1, 27, 31, 32, 1L << 40, (1L << 40) + 1, Due.word("aaaaaaaa") + (1L << 40),
            Long.MIN_VALUE, Long.MAX_VALUE, 27 << 5 | 1, 1 << 10 | 1, Long.MIN_VALUE + 1};
        for (long name : noNames) {
            Due.refused(x, "group(" + name + ", 1)", x.group(name, 1), 5);
        }
        Due.refused(x, "group(1, 0)", x.group(1, 0), 5);
        Due.refused(x, "group(1, 4)", x.group(1, 4), 5);
        Due.refused(x, "group(1, -1)", x.group(1, -1), 5);
        Due.refused(x, "group(1, 1 and the sign)", x.group(1, 1 | Integer.MIN_VALUE), 5);
        String[] names = {"a", "z", "zzzzzzzz", "az", "abcdefgh", "go", "again", "left"};
        for (int i = 0; i < 8; i++) {
            Due.fine(x, "group " + names[i], x.group(Due.word(names[i]), 1), i);
        }
        Due.refused(x, "a 9th with the empty set: 5 ahead of 7", x.group(Due.word("b"), 0), 5);
        Due.refused(x, "a 9th", x.group(Due.word("b"), 1), 7);
        Due.fine(x, "an old one told anew", x.group(Due.word("az"), 2), 3);
        Due.is("run", Due.runOf(x, "az: go 1; zzzzzzzz: back 1;"), 1);
        Due.fine(x, "at(1, 1, 1): the new set", x.at(1, 1, 1), 6);
        Due.fine(x, "at(1, 0, 1): the other's", x.at(1, 0, 1), 4);
        Due.is("ORDERS by names that are their WORDS", Due.runOf(x, "go: go 2; left:again 2 {go 1};"), 2);
        Due.refused(x, "a name refused is no name", Due.tell(x, "b: go 1;"), 10);
    }

    private static void steps() {
        DrillField x = new DrillField();
        x.marcher(5, 5, 1);
        x.group(1, 1);
        Due.is("run", Due.runOf(x, "a: go 1 shift 5 5 1 shift 5 5 1 shift -1 -2 1;"), 4);
        Due.fine(x, "told(2) with LONG 2", x.told(2), 3);
        Due.refused(x, "steps(0)", x.steps(0), 5);
        Due.refused(x, "steps(51)", x.steps(51), 5);
        Due.refused(x, "steps(-1)", x.steps(-1), 5);
        Due.fine(x, "told(2) behind refusals", x.told(2), 3);
        Due.fine(x, "steps(50)", x.steps(50));
        Due.fine(x, "told(2) with LONG 50: 50 is not above", x.told(2), 0);
        Due.fine(x, "steps(49)", x.steps(49));
        Due.fine(x, "told(2) with LONG 49", x.told(2), 2);
        Due.fine(x, "steps(1)", x.steps(1));
        Due.fine(x, "told(2) with LONG 1", x.told(2), 4);
    }
}
