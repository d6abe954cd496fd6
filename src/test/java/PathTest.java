/** Promises 24 and 25: path, move. */
public final class PathTest {
    public static void main(String[] args) {
        statuses();
        ways();
        hindrances();
        ownBeginning();
        kept();
        Due.end("PathTest");
    }

    private static void moves(DrillField x, String want) {
        for (int k = 0; k < want.length(); k++) {
            Due.fine(x, "move(" + k + ") of " + want, x.move(k), want.charAt(k) - '0');
        }
        Due.refused(x, "move(" + want.length() + ")", x.move(want.length()), 8);
        Due.refused(x, "move(-1)", x.move(-1), 8);
    }

    private static void way(DrillField x, int marcher, int east, int north, int face, String want) {
        String call = "path(" + marcher + ", " + east + ", " + north + ", " + face + ")";
        Due.fine(x, call, x.path(marcher, east, north, face), want.length());
        moves(x, want);
    }

    private static void statuses() {
        DrillField x = new DrillField();
        Due.refused(x, "move(0) ahead of any", x.move(0), 8);
        Due.refused(x, "path(0, 99, 0, 0): 2 ahead of 5", x.path(0, 99, 0, 0), 2);
        x.marcher(5, 5, 0);
        Due.refused(x, "path(-1, 0, 0, 0)", x.path(-1, 0, 0, 0), 2);
        Due.refused(x, "path(1, 0, 0, 0)", x.path(1, 0, 0, 0), 2);
        Due.refused(x, "path(0, 60, 0, 0)", x.path(0, 60, 0, 0), 5);
        Due.refused(x, "path(0, -1, 0, 0)", x.path(0, -1, 0, 0), 5);
        Due.refused(x, "path(0, 0, 40, 0)", x.path(0, 0, 40, 0), 5);
        Due.refused(x, "path(0, 0, -1, 0)", x.path(0, 0, -1, 0), 5);
        Due.refused(x, "path(0, 0, 0, 8)", x.path(0, 0, 0, 8), 5);
        Due.refused(x, "path(0, 0, 0, -2)", x.path(0, 0, 0, -2), 5);
        Due.refused(x, "move(0) ahead of any still", x.move(0), 8);
        x.prop(7, 7);
        Due.refused(x, "path(0, 7, 7, 0) on a PROP", x.path(0, 7, 7, 0), 8);
        Due.refused(x, "move(0) ahead of any still", x.move(0), 8);
    }

    private static void ways() {
        DrillField x = new DrillField();
        x.marcher(20, 20, 0);
        way(x, 0, 20, 20, -1, "");
        way(x, 0, 20, 20, 0, "");
        way(x, 0, 20, 23, -1, "000");
        way(x, 0, 20, 23, 0, "000");
        way(x, 0, 20, 20, 1, "1");
        way(x, 0, 20, 20, 7, "2");
        way(x, 0, 20, 20, 4, "1111");
        way(x, 0, 20, 22, 2, "0011");
        way(x, 0, 22, 22, -1, "100");
        way(x, 0, 18, 22, -1, "200");
        way(x, 0, 21, 23, -1, "0010");
        way(x, 0, 19, 23, -1, "0020");
        way(x, 0, 22, 20, -1, "1100");
        way(x, 0, 20, 19, -1, "11110");
        way(x, 0, 20, 19, 0, "111101111");
    }

    private static void hindrances() {
        DrillField x = new DrillField();
        x.marcher(20, 20, 0);
        x.marcher(20, 21, 4);
        way(x, 0, 20, 22, -1, "10220");
        Due.refused(x, "path(0, 20, 21, -1): another begins there", x.path(0, 20, 21, -1), 8);
        DrillField y = new DrillField();
        y.marcher(0, 0, 0);
        y.prop(0, 1);
        y.prop(1, 1);
        Due.fine(y, "path(0, 0, 2, -1): about the wall", y.path(0, 0, 2, -1), 10);
        moves(y, "1102022020");
        y.prop(1, 0);
        Due.refused(y, "path(0, 0, 2, -1): walled in", y.path(0, 0, 2, -1), 8);
        Due.fine(y, "path(0, 0, 0, 5): it can turn still", y.path(0, 0, 0, 5), 3);
        moves(y, "222");
        // Aslant between two PROPS is a step as any other.
        DrillField z = new DrillField();
        z.marcher(30, 30, 1);
        z.prop(30, 31);
        z.prop(31, 30);
        way(z, 0, 31, 31, -1, "0");
        // The ground's edge.
        DrillField w = new DrillField();
        w.marcher(59, 39, 0);
        way(w, 0, 59, 38, -1, "11110");
        way(w, 0, 0, 39, 6, "22" + "0".repeat(59));
        w.marcher(0, 0, 5);
        way(w, 1, 0, 1, -1, "1110");
    }

    private static void ownBeginning() {
        DrillField x = new DrillField();
        x.marcher(20, 20, 0);
        x.marcher(20, 20, 4);
        x.prop(20, 20);
        way(x, 0, 20, 20, 2, "11");
        way(x, 0, 20, 21, -1, "0");
        way(x, 1, 20, 19, -1, "0");
        x.marcher(20, 22, 4);
        Due.refused(x, "path(2, 20, 20, -1): not its own", x.path(2, 20, 20, -1), 8);
    }

    private static void kept() {
        DrillField x = new DrillField();
        x.marcher(20, 20, 0);
        way(x, 0, 22, 22, -1, "100");
        x.prop(25, 25);
        Due.refused(x, "path(0, 25, 25, -1)", x.path(0, 25, 25, -1), 8);
        moves(x, "100");
        Due.refused(x, "path(9, 25, 25, -1)", x.path(9, 25, 25, -1), 2);
        Due.refused(x, "path(0, 25, 45, -1)", x.path(0, 25, 45, -1), 5);
        moves(x, "100");
        way(x, 0, 20, 20, -1, "");
        way(x, 0, 20, 21, -1, "0");
    }
}
