/**
 * The order of STATUS (==== 6): each call with two wrongs at once, for each two that it can have, and
 * with each of them alone.
 */
public final class StatusTest {
    private static final String FIRST = "STATUS of a call is the first of these that holds";

    public static void main(String[] args) {
        trays();
        pours();
        field();
        texts();
        runs();
        figures();
        goes();
        paths();
        persons();
        marks();
        Due.end("StatusTest");
    }

    /** All that can be full is: MARCHERS, PROPS, GROUPS, PERSONS, AWAY, and the tape. */
    private static DrillField full() {
        DrillField x = new DrillField();
        for (int i = 0; i < 20; i++) {
            x.marcher(i, 1, 0);
        }
        for (int i = 0; i < 30; i++) {
            x.prop(i, 0);
        }
        for (int i = 1; i <= 8; i++) {
            x.group(i, 1);
        }
        for (int i = 0; i < 16; i++) {
            x.person(1);
        }
        for (int i = 0; i < 60; i++) {
            x.away(0, 9, 9, 5);
        }
        Due.feed(x, "?".repeat(500));
        return x;
    }

    private static void trays() {
        Due.says(FIRST);
        DrillField x = new DrillField();
        x.tray(1, 0, 2);
        Due.refused(x, "tray: no such TRAY, too long: 1", x.tray(4, 0, 41), 1);
        Due.refused(x, "tray: no such TRAY, below 0: 1", x.tray(-1, 0, -1), 1);
        Due.refused(x, "tray: no such sort, too long: 1", x.tray(0, 4, 41), 1);
        Due.refused(x, "tray: no such sort, below 0: 1", x.tray(0, -1, -1), 1);
        Due.refused(x, "tray: no such TRAY nor sort: 1", x.tray(4, 4, 1), 1);
        Due.refused(x, "tray: too long: 5", x.tray(0, 0, 41), 5);
        Due.refused(x, "tray: below 0: 6", x.tray(0, 0, -1), 6);
        Due.refused(x, "write: no such TRAY, no place: 1", x.write(4, 99, 0), 1);
        Due.refused(x, "write: MISSING, no place: 3", x.write(0, -1, 0), 3);
        Due.refused(x, "write: no place: 4", x.write(1, 2, 0), 4);
        Due.refused(x, "read: no such TRAY, no place: 1", x.read(-1, -1), 1);
        Due.refused(x, "read: MISSING, no place: 3", x.read(0, 40), 3);
        Due.refused(x, "read: no place: 4", x.read(1, -1), 4);
    }

    private static void pours() {
        Due.says("1, 3 (either), 11, 6, 4, asked in this order.");
        DrillField x = new DrillField();
        x.tray(0, 0, 2);
        x.tray(1, 1, 2);
        x.tray(2, 0, 2);
        Due.refused(x, "the first none such, the other MISSING: 1", x.pour(4, 0, 3, 0, 0), 1);
        Due.refused(x, "the first MISSING, the other none such: 1", x.pour(3, 0, 4, 0, 0), 1);
        Due.refused(x, "the first none such, below 0: 1", x.pour(-1, 0, 0, 0, -1), 1);
        Due.refused(x, "the other none such, no place: 1", x.pour(0, 9, -1, 9, 1), 1);
        Due.refused(x, "the first MISSING, below 0: 3", x.pour(3, 0, 0, 0, -1), 3);
        Due.refused(x, "the other MISSING, no place: 3", x.pour(0, 9, 3, 0, 1), 3);
        Due.refused(x, "unlike, below 0: 11", x.pour(0, 0, 1, 0, -1), 11);
        Due.refused(x, "unlike, no place: 11", x.pour(0, 9, 1, 9, 1), 11);
        Due.refused(x, "below 0, no place: 6", x.pour(0, -1, 2, 9, -1), 6);
        Due.refused(x, "no place in the first: 4", x.pour(0, 2, 2, 0, 1), 4);
        Due.refused(x, "no place in the other: 4", x.pour(0, 0, 2, 2, 1), 4);
    }

    private static void field() {
        Due.says(FIRST);
        DrillField x = full();
        Due.refused(x, "marcher: east, one too many: 5", x.marcher(60, 0, 0), 5);
        Due.refused(x, "marcher: north, one too many: 5", x.marcher(0, 40, 0), 5);
        Due.refused(x, "marcher: FACE, one too many: 5", x.marcher(0, 0, 8), 5);
        Due.refused(x, "marcher: one too many: 7", x.marcher(0, 0, 0), 7);
        Due.refused(x, "prop: east, one too many: 5", x.prop(-1, 0), 5);
        Due.refused(x, "prop: north, one too many: 5", x.prop(0, -1), 5);
        Due.refused(x, "prop: one too many, there already: 7", x.prop(0, 0), 7);
        Due.refused(x, "prop: one too many: 7", x.prop(0, 1), 7);
        Due.refused(x, "group: no NAME, one too many: 5", x.group(0, 1), 5);
        Due.refused(x, "group: bits of no MARCHER, one too many: 5", x.group(9, 1 << 20), 5);
        Due.refused(x, "group: the empty set, one too many: 5", x.group(9, 0), 5);
        Due.refused(x, "group: one too many: 7", x.group(9, 1), 7);
        Due.fine(x, "group: told anew is not one too many", x.group(8, 1), 7);
        Due.refused(x, "group: told anew with the empty set: 5", x.group(8, 0), 5);
        Due.refused(x, "steps: 5", x.steps(51), 5);
        DrillField y = new DrillField();
        y.prop(0, 0);
        Due.refused(y, "prop: there already: 9", y.prop(0, 0), 9);
    }

    private static void texts() {
        Due.says(FIRST);
        DrillField x = full();
        Due.refused(x, "orders: n, and the TEXT would have a FAULT: 5", x.orders(501), 5);
        Due.refused(x, "orders: n below 0: 5", x.orders(-1), 5);
        Due.refused(x, "run: no TEXT: 8", x.run(), 8);
        Due.refused(x, "orders: a FAULT: 10", x.orders(500), 10);
        Due.refused(x, "run: no TEXT still: 8", x.run(), 8);
        Due.is("orders", Due.tell(x, "a: back 2;"), 1);
        Due.refused(x, "run: an ERROR: 10", x.run(), 10);
    }

    private static void runs() {
        Due.says("in the order 8, 2, 5");
        DrillField x = Due.field(5, 5, 0);
        Due.refused(x, "at: no RUN, no COUNT: 8", x.at(9, 0, 0), 8);
        Due.refused(x, "at: no RUN, no MARCHER: 8", x.at(0, 9, 0), 8);
        Due.refused(x, "at: no RUN, what: 8", x.at(0, 0, 9), 8);
        Due.says("(5; 8)");
        Due.refused(x, "told: what, no RUN: 5", x.told(5), 5);
        Due.refused(x, "told: no RUN: 8", x.told(0), 8);
        Due.says("(5: what; 8: no RUN, no such CLASH)");
        Due.refused(x, "clash: what, no RUN: 5", x.clash(0, 3), 5);
        Due.refused(x, "clash: no RUN: 8", x.clash(0, 2), 8);
        Due.is("run", Due.runOf(x, "a: go 1;"), 1);
        Due.refused(x, "clash: what, no such CLASH: 5", x.clash(0, -1), 5);
        Due.refused(x, "clash: no such CLASH: 8", x.clash(0, 0), 8);
        Due.refused(x, "told: what: 5", x.told(-1), 5);
        Due.says("in the order 8, 2, 5");
        Due.refused(x, "at: no COUNT, what: 2", x.at(2, 0, 3), 2);
        Due.refused(x, "at: no MARCHER, what: 2", x.at(0, 1, -1), 2);
        Due.refused(x, "at: what: 5", x.at(1, 0, 3), 5);
    }

    private static void figures() {
        Due.says("(8; 2: one of it was not there, too; in this order)");
        DrillField x = Due.field(5, 5, 0, 7, 5, 0);
        Due.refused(x, "dressed: no RUN, no GROUP: 8", x.dressed(1, 0), 8);
        Due.refused(x, "dressed: no RUN, no COUNT: 8", x.dressed(0, 9), 8);
        Due.refused(x, "like: no RUN, no COUNT: 8", x.like(9, 0), 8);
        Due.refused(x, "seen: no RUN, no COUNT: 8", x.seen(9, 0, 1), 8);
        Due.refused(x, "seen: no RUN, east: 8", x.seen(0, 60, 1), 8);
        Due.is("run", Due.runOf(x, "a: open 2 1;"), 1);
        Due.refused(x, "dressed: no GROUP: 2", x.dressed(1, 0), 2);
        Due.refused(x, "dressed: no COUNT: 2", x.dressed(0, 2), 2);
        Due.says("(8; 2; then 8: in no way)");
        Due.refused(x, "like: no COUNT: 2", x.like(0, 2), 2);
        Due.refused(x, "like: in no way: 8", x.like(0, 1), 8);
        Due.says("(8; 2; 5; in this order)");
        Due.refused(x, "seen: no COUNT, east: 2", x.seen(2, 60, 1), 2);
        Due.refused(x, "seen: no COUNT, below: 2", x.seen(-1, 0, 0), 2);
        Due.refused(x, "seen: east: 5", x.seen(0, 60, 1), 5);
        Due.refused(x, "seen: below: 5", x.seen(0, 0, 41), 5);
    }

    private static void goes() {
        Due.says("(1; 3; 5: so many, more than there are, counts; 4; 5: a SPOT, one twice; 8: none can; in this order)");
        DrillField x = Due.field(5, 5, 0, 5, 5, 0);
        Due.refused(x, "no such TRAY, so many: 1", x.goes(4, 0, 1), 1);
        Due.refused(x, "no such TRAY, counts: 1", x.goes(-1, 1, 0), 1);
        Due.refused(x, "MISSING, so many: 3", x.goes(0, 7, 1), 3);
        Due.refused(x, "MISSING, counts: 3", x.goes(0, 1, 41), 3);
        Due.lay(x, 0, 2, 60);
        Due.refused(x, "so many, too few numbers: 5", x.goes(0, 7, 1), 5);
        Due.refused(x, "more than there are, too few numbers: 5", x.goes(0, 3, 1), 5);
        Due.refused(x, "counts, too few numbers: 5", x.goes(0, 1, 0), 5);
        Due.refused(x, "too few numbers, a SPOT: 4", x.goes(0, 1, 1), 4);
        Due.lay(x, 0, 2, 9, 9, 60, 0);
        Due.refused(x, "a SPOT, none can: 5", x.goes(0, 2, 1), 5);
        Due.lay(x, 0, 2, 9, 9, 9, 9);
        Due.refused(x, "one twice, none can: 5", x.goes(0, 2, 1), 5);
        Due.lay(x, 0, 2, 9, 9, 9, 8);
        Due.refused(x, "none can: 8", x.goes(0, 2, 1), 8);
        Due.says("(8: none such)");
        Due.refused(x, "spotOf: none such: 8", x.spotOf(0), 8);
    }

    private static void paths() {
        Due.says("(2; 5; 8)");
        DrillField x = Due.field(5, 5, 0);
        x.prop(7, 7);
        Due.refused(x, "no MARCHER, east: 2", x.path(1, 60, 0, 0), 2);
        Due.refused(x, "no MARCHER, no way: 2", x.path(1, 7, 7, 0), 2);
        Due.refused(x, "FACE, no way: 5", x.path(0, 7, 7, 8), 5);
        Due.refused(x, "east: 5", x.path(0, 60, 7, 0), 5);
        Due.refused(x, "north: 5", x.path(0, 7, 40, 0), 5);
        Due.refused(x, "no way: 8", x.path(0, 7, 7, 0), 8);
        Due.refused(x, "move: none such: 8", x.move(0), 8);
    }

    private static void persons() {
        Due.says(FIRST);
        DrillField x = full();
        Due.refused(x, "person: bits of no MARCHER, one too many: 5", x.person(1 << 20), 5);
        Due.refused(x, "person: one too many: 7", x.person(1), 7);
        Due.refused(x, "away: no PERSON, from behind to: 2", x.away(16, 9, 8, 9), 2);
        Due.refused(x, "away: no PERSON, one too many: 2", x.away(16, 9, 9, 9), 2);
        Due.refused(x, "away: no PERSON, a day that is gone: 2", x.away(-1, 9, 9, 4), 2);
        Due.refused(x, "away: from behind to, one too many: 5", x.away(0, 9, 8, 9), 5);
        Due.refused(x, "away: from behind to, a day that is gone: 5", x.away(0, 9, 8, 4), 5);
        Due.refused(x, "away: no day, one too many: 5", x.away(0, 9, 9, 10000), 5);
        Due.refused(x, "away: one too many, a day that is gone: 7", x.away(0, 9, 9, 4), 7);
        Due.refused(x, "away: one too many: 7", x.away(0, 9, 9, 5), 7);
        DrillField y = Due.field(5, 5, 0);
        y.person(1);
        y.away(0, 3, 3, 7);
        Due.refused(y, "away: a day that is gone: 12", y.away(0, 3, 3, 6), 12);
        Due.refused(y, "away: no day known, below the latest: 5", y.away(0, 3, 3, -1), 5);
        Due.refused(y, "filled: 5", y.filled(10000, 0), 5);
        Due.refused(y, "who: no MARCHER, no day: 2", y.who(1, -1, 0), 2);
        Due.refused(y, "who: no MARCHER, none: 2", y.who(1, 3, 7), 2);
        Due.refused(y, "who: no day, none: 5", y.who(0, 3, 10000), 5);
        Due.refused(y, "who: none: 8", y.who(0, 3, 7), 8);
    }

    private static void marks() {
        Due.says(FIRST);
        DrillField x = new DrillField();
        Due.refused(x, "mark: no SHOW, no MARK: 2", x.mark(6, 0, 0, 101), 2);
        Due.refused(x, "mark: no JUDGE, no MARK: 2", x.mark(0, 9, 0, -2), 2);
        Due.refused(x, "mark: no TRAIT, no MARK: 2", x.mark(0, 0, 3, 101), 2);
        Due.refused(x, "mark: no MARK: 5", x.mark(0, 0, 0, 101), 5);
        Due.refused(x, "weight: no TRAIT, no WEIGHT: 2", x.weight(3, 0), 2);
        Due.refused(x, "weight: no WEIGHT: 5", x.weight(0, 0), 5);
        Due.refused(x, "total: no SHOW: 2", x.total(6), 2);
        Due.refused(x, "total: none: 8", x.total(5), 8);
        Due.refused(x, "rank: no SHOW: 2", x.rank(6), 2);
        Due.refused(x, "rank: none: 8", x.rank(5), 8);
    }
}
