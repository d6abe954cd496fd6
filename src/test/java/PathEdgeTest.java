/** Boundary cases of the promises 24 and 25, each under the sentence of the document that names it. */
public final class PathEdgeTest {
    private static final int[] EAST = {0, 1, 1, 1, 0, -1, -1, -1};
    private static final int[] NORTH = {1, 1, 0, -1, -1, -1, 0, 1};

    public static void main(String[] args) {
        asked();
        statusOrder();
        noCounts();
        turnsAbout();
        anyFace();
        stepOfEachFace();
        neverOffTheGround();
        neverOnAProp();
        neverOnAnother();
        ownBeginning();
        walledIn();
        fewest();
        firstOfSeveral();
        overAllTheGround();
        moveAsked();
        latestStays();
        Due.end("PathEdgeTest");
    }

    private static void way(DrillField x, int marcher, int east, int north, int face, String want) {
        String call = "path(" + marcher + ", " + east + ", " + north + ", " + face + ")";
        Due.fine(x, call, x.path(marcher, east, north, face), want.length());
        moves(x, want);
    }

    private static void moves(DrillField x, String want) {
        for (int k = 0; k < want.length(); k++) {
            Due.fine(x, "move(" + k + ") of " + want, x.move(k), want.charAt(k) - '0');
        }
        Due.refused(x, "move(" + want.length() + ") of " + want, x.move(want.length()), 8);
    }

    private static void asked() {
        Due.says("PATH of a MARCHER, FACE NONE: any: how many counts (2; 5; 8).");
        DrillField x = Due.field(5, 5, 0, 6, 7, 0);
        Due.range(x, "path of a MARCHER", 0, 1, 2, m -> x.path(m, 30, 30, 0));
        Due.range(x, "path to east", 0, 59, 5, east -> x.path(0, east, 30, 0));
        Due.range(x, "path to north", 0, 39, 5, north -> x.path(0, 30, north, 0));
        Due.range(x, "path to a FACE", -1, 7, 5, face -> x.path(0, 30, 30, face));
        DrillField none = new DrillField();
        Due.refused(none, "path(0, 0, 0, 0): no MARCHERS", none.path(0, 0, 0, 0), 2);
    }

    private static void statusOrder() {
        Due.says("how many counts (2; 5; 8)");
        DrillField x = Due.field(5, 5, 0);
        x.prop(7, 7);
        Due.refused(x, "path(1, 60, 40, 8): 2 ahead of 5", x.path(1, 60, 40, 8), 2);
        Due.refused(x, "path(-1, 7, 7, -1): 2 ahead of 8", x.path(-1, 7, 7, -1), 2);
        Due.refused(x, "path(0, 7, 7, 8): 5 ahead of 8", x.path(0, 7, 7, 8), 5);
        Due.refused(x, "path(0, 7, 7, -2): 5 ahead of 8", x.path(0, 7, 7, -2), 5);
        Due.refused(x, "path(0, 7, 7, -1): 8", x.path(0, 7, 7, -1), 8);
    }

    private static void noCounts() {
        Due.says("the fewest counts");
        for (int face = 0; face < 8; face++) {
            DrillField x = Due.field(59, 39, face);
            way(x, 0, 59, 39, -1, "");
            way(x, 0, 59, 39, face, "");
        }
    }

    private static void turnsAbout() {
        Due.says("or turns an eighth to the right (1) or to the left (2)");
        String[] turns = {"", "1", "11", "111", "1111", "222", "22", "2"};
        for (int from = 0; from < 8; from++) {
            DrillField x = Due.field(20, 20, from);
            for (int by = 0; by < 8; by++) {
                way(x, 0, 20, 20, (from + by) % 8, turns[by]);
            }
        }
    }

    private static void anyFace() {
        Due.says("to a SPOT (and FACE, or any)");
        DrillField x = Due.field(20, 20, 0);
        way(x, 0, 20, 22, -1, "00");
        way(x, 0, 20, 22, 0, "00");
        way(x, 0, 20, 22, 1, "001");
        way(x, 0, 20, 22, 7, "002");
        way(x, 0, 20, 22, 4, "001111");
    }

    private static void stepOfEachFace() {
        Due.says("each count it goes a step ahead (0)");
        for (int face = 0; face < 8; face++) {
            DrillField x = Due.field(20, 20, face);
            way(x, 0, 20 + 3 * EAST[face], 20 + 3 * NORTH[face], -1, "000");
            way(x, 0, 20 + EAST[face], 20 + NORTH[face], face, "0");
        }
    }

    private static void neverOffTheGround() {
        Due.says("never off the ground");
        // Along each edge, and out of each corner, with the FACE off the ground at first.
        way(Due.field(0, 0, 4), 0, 1, 0, -1, "220");
        way(Due.field(0, 0, 6), 0, 0, 1, -1, "110");
        way(Due.field(0, 0, 5), 0, 1, 1, -1, "11110");
        way(Due.field(59, 39, 0), 0, 58, 39, -1, "220");
        way(Due.field(59, 39, 2), 0, 59, 38, -1, "110");
        way(Due.field(59, 39, 1), 0, 58, 38, -1, "11110");
        way(Due.field(0, 39, 0), 0, 1, 39, -1, "110");
        way(Due.field(59, 0, 4), 0, 58, 0, -1, "110");
        // About a PROP at the edge there is but the one side: 0, 1 is shut, -1, 1 is no SPOT.
        DrillField west = Due.field(0, 0, 0);
        west.prop(0, 1);
        way(west, 0, 0, 2, -1, "10220");
        DrillField north = Due.field(0, 39, 2);
        north.prop(1, 39);
        way(north, 0, 2, 39, -1, "10220");
        DrillField south = Due.field(59, 0, 6);
        south.prop(58, 0);
        way(south, 0, 57, 0, -1, "10220");
    }

    private static void neverOnAProp() {
        Due.says("never off the ground, on a PROP");
        DrillField x = Due.field(20, 20, 0);
        way(x, 0, 20, 22, -1, "00");
        x.prop(20, 21);
        way(x, 0, 20, 22, -1, "10220");
        Due.refused(x, "path(0, 20, 21, -1): to a PROP", x.path(0, 20, 21, -1), 8);
        for (int face = 0; face < 8; face++) {
            Due.refused(x, "path(0, 20, 21, " + face + "): to a PROP", x.path(0, 20, 21, face), 8);
        }
        x.prop(21, 21);
        way(x, 0, 20, 22, -1, "20110");
        DrillField corners = Due.field(20, 20, 0);
        corners.prop(0, 0);
        corners.prop(59, 39);
        Due.refused(corners, "path(0, 0, 0, -1)", corners.path(0, 0, 0, -1), 8);
        Due.refused(corners, "path(0, 59, 39, -1)", corners.path(0, 59, 39, -1), 8);
        Due.fine(corners, "path(0, 0, 39, -1)", corners.path(0, 0, 39, -1), 22);
    }

    private static void neverOnAnother() {
        Due.says("or on a SPOT where another one begins");
        DrillField x = Due.field(20, 20, 0, 20, 21, 0);
        way(x, 0, 20, 22, -1, "10220");
        Due.refused(x, "path(0, 20, 21, -1)", x.path(0, 20, 21, -1), 8);
        Due.refused(x, "path(1, 20, 20, -1)", x.path(1, 20, 20, -1), 8);
        Due.is("run", Due.runOf(x, "a: go 9;"), 9);
        way(x, 0, 20, 22, -1, "10220");
        // Aslant all along is as short as close by, and the step ahead comes first.
        way(x, 0, 20, 30, -1, "1000002200000");
        x.marcher(21, 21, 0);
        way(x, 0, 20, 22, -1, "20110");
    }

    private static void ownBeginning() {
        Due.says("(its own beginning is free to it)");
        DrillField x = Due.field(20, 20, 0, 20, 20, 4);
        x.prop(20, 20);
        way(x, 0, 20, 20, -1, "");
        way(x, 0, 20, 20, 3, "111");
        way(x, 0, 20, 21, -1, "0");
        way(x, 1, 20, 19, -1, "0");
        way(x, 0, 20, 19, -1, "11110");
        x.marcher(20, 22, 4);
        Due.refused(x, "path(2, 20, 20, -1): not its own", x.path(2, 20, 20, -1), 8);
        DrillField corner = Due.field(0, 0, 2);
        corner.prop(0, 0);
        way(corner, 0, 5, 0, -1, "00000");
        way(corner, 0, 0, 0, 0, "22");
    }

    private static void walledIn() {
        Due.says("8 there is none (no RUN, no TEXT, no way).");
        DrillField x = Due.field(0, 0, 0);
        x.prop(0, 1);
        x.prop(1, 0);
        way(x, 0, 2, 2, -1, "100");
        x.prop(1, 1);
        Due.refused(x, "path(0, 2, 2, -1): shut in", x.path(0, 2, 2, -1), 8);
        Due.refused(x, "path(0, 59, 39, 0): shut in", x.path(0, 59, 39, 0), 8);
        way(x, 0, 0, 0, 4, "1111");
        DrillField y = Due.field(30, 30, 0);
        for (int face = 0; face < 8; face++) {
            y.marcher(30 + EAST[face], 30 + NORTH[face], 0);
        }
        Due.refused(y, "path(0, 30, 32, -1): eight about it", y.path(0, 30, 32, -1), 8);
        way(y, 0, 30, 30, 7, "2");
        way(y, 1, 30, 33, -1, "00");
    }

    private static void fewest() {
        Due.says("the fewest counts");
        DrillField x = Due.field(20, 20, 0);
        // Ten aslant is as many steps as ten straight, but a turn more.
        way(x, 0, 30, 30, -1, "1" + "0".repeat(10));
        way(x, 0, 20, 30, -1, "0".repeat(10));
        way(x, 0, 20, 10, -1, "1111" + "0".repeat(10));
        way(x, 0, 20, 19, 0, "111101111");
    }

    private static void firstOfSeveral() {
        Due.says("of several the first, count by count");
        DrillField x = Due.field(20, 20, 0);
        way(x, 0, 20, 20, 4, "1111");
        way(x, 0, 21, 23, -1, "0010");
        way(x, 0, 22, 23, -1, "0100");
        way(x, 0, 19, 23, -1, "0020");
        way(x, 0, 20, 21, 4, "01111");
        DrillField both = Due.field(20, 20, 0);
        both.prop(20, 21);
        way(both, 0, 20, 22, -1, "10220");
    }

    private static void overAllTheGround() {
        Due.says("PATH of a MARCHER from its beginning to a SPOT");
        DrillField x = Due.field(0, 0, 1);
        // 39 aslant and 20 to the east, with one eighth between.
        way(x, 0, 59, 39, -1, "0".repeat(39) + "1" + "0".repeat(20));
        // A wall across the ground but for one SPOT.
        DrillField y = new DrillField();
        y.marcher(0, 0, 2);
        for (int north = 0; north < 20; north++) {
            y.prop(1, north);
            if (north < 19) {
                y.marcher(1, 39 - north, 0);
            }
        }
        y.prop(1, 20);
        Due.refused(y, "path(0, 2, 0, -1): a wall", y.path(0, 2, 0, -1), 8);
        DrillField z = new DrillField();
        z.marcher(0, 0, 0);
        for (int north = 0; north < 30; north++) {
            z.prop(1, north);
        }
        for (int north = 31; north < 40; north++) {
            z.marcher(1, north, 0);
        }
        // 29 to the north, aslant to 1, 30, the one SPOT that is free, and on.
        way(z, 0, 2, 30, 2, "0".repeat(29) + "1010");
        way(z, 0, 2, 31, -1, "0".repeat(29) + "100");
    }

    private static void moveAsked() {
        Due.says("What is done in the k-th count of the PATH found latest (8: none such).");
        DrillField x = Due.field(20, 20, 0);
        Due.refused(x, "move(0) ahead of any", x.move(0), 8);
        Due.refused(x, "move(-1) ahead of any", x.move(-1), 8);
        Due.refused(x, "path(0, 60, 0, 0)", x.path(0, 60, 0, 0), 5);
        Due.refused(x, "move(0) behind a refused one", x.move(0), 8);
        Due.fine(x, "path(0, 22, 22, -1)", x.path(0, 22, 22, -1), 3);
        Due.range(x, "move", 0, 2, 8, x::move);
        Due.fine(x, "path(0, 20, 20, -1)", x.path(0, 20, 20, -1), 0);
        Due.refused(x, "move(0) of no counts", x.move(0), 8);
        Due.refused(x, "move(-1) of no counts", x.move(-1), 8);
    }

    private static void latestStays() {
        Due.says("the PATH found latest");
        DrillField x = Due.field(20, 20, 0);
        x.prop(30, 30);
        way(x, 0, 22, 22, -1, "100");
        Due.refused(x, "path(0, 30, 30, -1)", x.path(0, 30, 30, -1), 8);
        moves(x, "100");
        Due.refused(x, "path(1, 20, 21, -1)", x.path(1, 20, 21, -1), 2);
        Due.refused(x, "path(0, 20, 40, -1)", x.path(0, 20, 40, -1), 5);
        moves(x, "100");
        x.prop(21, 21);
        moves(x, "100");
        way(x, 0, 20, 21, -1, "0");
    }
}
