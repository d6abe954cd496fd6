import java.util.ArrayList;
import java.util.List;
import java.util.function.BiConsumer;
import java.util.function.Function;
import java.util.function.Predicate;
import java.util.function.Supplier;
import java.util.function.ToLongFunction;

/**
 * "A call with another STATUS than 0 gives NONE, or false, and changes nothing but STATUS.": of two
 * objects made alike one is asked the refused call; then all that can be seen of both must be alike.
 */
public final class RefusalTest {
    private record Refused(String call, int status, ToLongFunction<DrillField> ask, long want) {}

    private static final List<Function<DrillField, List<Long>>> VIEWS = List.of(RefusalTest::seeTrays, RefusalTest::seeRun,
            RefusalTest::seeField, RefusalTest::seeTape, RefusalTest::seeGoesAndPath, RefusalTest::seePersons, RefusalTest::seeMarks);

    private static List<Refused> refused = new ArrayList<>();

    public static void main(String[] args) {
        Due.says("A call with another STATUS than 0 gives NONE, or false, and changes nothing but STATUS.");
        ofNew();
        alike(DrillField::new);
        ofSome();
        alike(RefusalTest::some);
        ofFull();
        alike(RefusalTest::full);
        feedOfFull();
        Due.end("RefusalTest");
    }

    private static void number(String call, int status, ToLongFunction<DrillField> ask) {
        refused.add(new Refused(call, status, ask, DrillField.NONE));
    }

    private static void yesNo(String call, int status, Predicate<DrillField> ask) {
        refused.add(new Refused(call, status, x -> ask.test(x) ? 1 : 0, 0));
    }

    /** Asks each refused call of an object made so, and sees it beside one that was not asked. */
    private static void alike(Supplier<DrillField> made) {
        for (int view = 0; view < VIEWS.size(); view++) {
            List<Long> want = VIEWS.get(view).apply(made.get());
            for (Refused r : refused) {
                DrillField x = made.get();
                Due.is(r.call, r.ask.applyAsLong(x), r.want);
                Due.is(r.call + ": status()", x.status(), r.status);
                List<Long> got = VIEWS.get(view).apply(x);
                Due.is(r.call + ": how many answers of view " + view, got.size(), want.size());
                for (int i = 0; i < Math.min(got.size(), want.size()); i++) {
                    Due.is(r.call + ": answer " + i + " of view " + view, got.get(i), want.get(i));
                }
            }
        }
        refused.clear();
    }

    // ---- how they are made

    /** Some of each, and room for more; the latest orders() had a FAULT, the latest run() an ERROR. */
    private static DrillField some() {
        DrillField x = Due.field(10, 10, 2, 12, 10, 6, 12, 10, 0, 30, 30, 1);
        x.group(Due.word("b"), 0b0011);
        x.prop(11, 10);
        x.steps(3);
        x.tray(0, 0, 4);
        x.tray(1, 1, 3);
        x.write(0, 0, 20);
        x.write(0, 1, 20);
        x.write(0, 2, 20);
        x.write(0, 3, 22);
        x.write(1, 2, 7);
        Due.tell(x, "a: go 2 turn 1 mark 1 turn 7;");
        x.run();
        x.marcher(40, 20, 3);
        x.group(Due.word("b"), 0b10001);
        Due.tell(x, "b: mark 3 go 30;");
        x.run();
        Due.tell(x, "?");
        x.goes(0, 2, 3);
        x.path(0, 14, 14, 1);
        x.person(0b00111);
        x.person(0b00001);
        x.away(0, 3, 5, 4);
        for (int trait = 0; trait < 3; trait++) {
            x.mark(0, 0, trait, 10 + trait);
            x.mark(0, 1, trait, 21);
            x.mark(2, 5, trait, 30);
        }
        x.mark(1, 0, 0, 99);
        x.weight(1, 4);
        x.total(0);
        return x;
    }

    /** As many as can be of each, and a full tape. */
    private static DrillField full() {
        DrillField x = new DrillField();
        for (int i = 0; i < 20; i++) {
            x.marcher(20 + i, 15 + i % 7, i % 8);
        }
        for (int i = 0; i < 30; i++) {
            x.prop(2 * i, 30);
        }
        for (int i = 1; i <= 8; i++) {
            x.group(i, (1 << 20) - i);
        }
        for (int i = 0; i < 16; i++) {
            x.person((1 << 20) - 1 - (1 << i));
        }
        for (int i = 0; i < 60; i++) {
            x.away(i % 16, i, i + 5, 5);
        }
        Due.tell(x, "a: go 1 again 2 { turn 3 mark 4 } shift 1 -1 3;");
        x.run();
        for (int show = 0; show < 6; show++) {
            for (int trait = 0; trait < 3; trait++) {
                x.mark(show, 3, trait, 10 * show + trait);
            }
        }
        x.total(3);
        Due.feed(x, "a: go 2;" + " ".repeat(492));
        return x;
    }

    // ---- which calls they refuse

    private static void ofNew() {
        yesNo("tray(0, 0, 41)", 5, x -> x.tray(0, 0, 41));
        yesNo("tray(0, 0, -1)", 6, x -> x.tray(0, 0, -1));
        yesNo("write(0, 0, 1)", 3, x -> x.write(0, 0, 1));
        number("read(0, 0)", 3, x -> x.read(0, 0));
        yesNo("pour(0, 0, 1, 0, 1)", 3, x -> x.pour(0, 0, 1, 0, 1));
        number("marcher(60, 0, 0)", 5, x -> x.marcher(60, 0, 0));
        number("group(1, 1)", 5, x -> x.group(1, 1));
        number("orders(1)", 5, x -> x.orders(1));
        number("run()", 8, DrillField::run);
        number("at(0, 0, 0)", 8, x -> x.at(0, 0, 0));
        number("told(0)", 8, x -> x.told(0));
        number("clash(0, 0)", 8, x -> x.clash(0, 0));
        number("dressed(0, 0)", 8, x -> x.dressed(0, 0));
        number("like(0, 0)", 8, x -> x.like(0, 0));
        number("seen(0, 0, 1)", 8, x -> x.seen(0, 0, 1));
        number("goes(0, 1, 1)", 3, x -> x.goes(0, 1, 1));
        number("spotOf(NONE)", 8, x -> x.spotOf(-1));
        number("path(0, 0, 0, 0)", 2, x -> x.path(0, 0, 0, 0));
        number("move(0)", 8, x -> x.move(0));
        number("person(1)", 5, x -> x.person(1));
        yesNo("away(0, 0, 0, 0)", 2, x -> x.away(0, 0, 0, 0));
        number("filled(-1, 0)", 5, x -> x.filled(-1, 0));
        number("who(0, 0, 0)", 2, x -> x.who(0, 0, 0));
        yesNo("total(0)", 8, x -> x.total(0));
        number("rank(0)", 8, x -> x.rank(0));
    }

    private static void ofSome() {
        someTrays();
        someField();
        someRun();
        somePersonsAndMarks();
    }

    private static void someTrays() {
        yesNo("tray(4, 0, 1)", 1, x -> x.tray(4, 0, 1));
        yesNo("tray(0, 4, 1)", 1, x -> x.tray(0, 4, 1));
        yesNo("tray(0, 3, 41)", 5, x -> x.tray(0, 3, 41));
        yesNo("tray(0, 3, -1)", 6, x -> x.tray(0, 3, -1));
        yesNo("write(4, 0, 9)", 1, x -> x.write(4, 0, 9));
        yesNo("write(3, 0, 9)", 3, x -> x.write(3, 0, 9));
        yesNo("write(0, 4, 9)", 4, x -> x.write(0, 4, 9));
        yesNo("write(0, -1, 9)", 4, x -> x.write(0, -1, 9));
        number("read(4, 0)", 1, x -> x.read(4, 0));
        number("read(3, 0)", 3, x -> x.read(3, 0));
        number("read(0, 4)", 4, x -> x.read(0, 4));
        yesNo("pour(0, 0, 4, 0, 1)", 1, x -> x.pour(0, 0, 4, 0, 1));
        yesNo("pour(0, 0, 3, 0, 1)", 3, x -> x.pour(0, 0, 3, 0, 1));
        yesNo("pour(3, 0, 0, 0, 1)", 3, x -> x.pour(3, 0, 0, 0, 1));
        yesNo("pour(0, 0, 1, 0, 1)", 11, x -> x.pour(0, 0, 1, 0, 1));
        yesNo("pour(0, 0, 0, 1, -1)", 6, x -> x.pour(0, 0, 0, 1, -1));
        yesNo("pour(0, 0, 0, 1, 4)", 4, x -> x.pour(0, 0, 0, 1, 4));
        yesNo("pour(0, 1, 0, 0, 4)", 4, x -> x.pour(0, 1, 0, 0, 4));
    }

    private static void someField() {
        number("marcher(0, 40, 0)", 5, x -> x.marcher(0, 40, 0));
        number("marcher(0, 0, 8)", 5, x -> x.marcher(0, 0, 8));
        yesNo("prop(60, 0)", 5, x -> x.prop(60, 0));
        yesNo("prop(11, 10)", 9, x -> x.prop(11, 10));
        number("group(27, 1)", 5, x -> x.group(27, 1));
        number("group(1, 0)", 5, x -> x.group(1, 0));
        number("group(1, 32)", 5, x -> x.group(1, 32));
        number("group(3, 32)", 5, x -> x.group(3, 32));
        yesNo("steps(0)", 5, x -> x.steps(0));
        yesNo("steps(51)", 5, x -> x.steps(51));
        number("orders(1) of no tape", 5, x -> x.orders(1));
        number("orders(-1)", 5, x -> x.orders(-1));
        number("orders(1) with the FAULT that the latest had", 10, x -> Due.tell(x, "?"));
        number("path(5, 0, 0, 0)", 2, x -> x.path(5, 0, 0, 0));
        number("path(0, 60, 0, 0)", 5, x -> x.path(0, 60, 0, 0));
        number("path(0, 0, 0, 8)", 5, x -> x.path(0, 0, 0, 8));
        number("path(0, 11, 10, -1)", 8, x -> x.path(0, 11, 10, -1));
        number("path(0, 12, 10, -1)", 8, x -> x.path(0, 12, 10, -1));
        number("move(-1)", 8, x -> x.move(-1));
        number("move(99)", 8, x -> x.move(99));
        number("goes(4, 1, 1)", 1, x -> x.goes(4, 1, 1));
        number("goes(3, 1, 1)", 3, x -> x.goes(3, 1, 1));
        number("goes(0, 0, 1)", 5, x -> x.goes(0, 0, 1));
        number("goes(0, 6, 1)", 5, x -> x.goes(0, 6, 1));
        number("goes(0, 1, 41)", 5, x -> x.goes(0, 1, 41));
        number("goes(0, 3, 1)", 4, x -> x.goes(0, 3, 1));
        number("spotOf(-2)", 8, x -> x.spotOf(-2));
        number("spotOf(2)", 8, x -> x.spotOf(2));
    }

    private static void someRun() {
        number("run() with the ERROR that the latest had", 10, DrillField::run);
        number("at(4, 0, 0)", 2, x -> x.at(4, 0, 0));
        number("at(0, 4, 0)", 2, x -> x.at(0, 4, 0));
        number("at(0, 0, 3)", 5, x -> x.at(0, 0, 3));
        number("told(5)", 5, x -> x.told(5));
        number("clash(0, 3)", 5, x -> x.clash(0, 3));
        number("clash(99, 0)", 8, x -> x.clash(99, 0));
        number("dressed(2, 0)", 2, x -> x.dressed(2, 0));
        number("dressed(1, 0): one was not there", 2, x -> x.dressed(1, 0));
        number("dressed(0, 4)", 2, x -> x.dressed(0, 4));
        number("like(0, 4)", 2, x -> x.like(0, 4));
        number("like(0, 1): in no way", 8, x -> x.like(0, 1));
        number("seen(4, 0, 1)", 2, x -> x.seen(4, 0, 1));
        number("seen(0, 60, 1)", 5, x -> x.seen(0, 60, 1));
        number("seen(0, 0, 41)", 5, x -> x.seen(0, 0, 41));
    }

    private static void somePersonsAndMarks() {
        number("person(32)", 5, x -> x.person(32));
        yesNo("away(2, 0, 0, 9)", 2, x -> x.away(2, 0, 0, 9));
        yesNo("away(1, 1, 0, 9)", 5, x -> x.away(1, 1, 0, 9));
        yesNo("away(1, 0, 10000, 9)", 5, x -> x.away(1, 0, 10000, 9));
        yesNo("away(1, 0, 9999, 3)", 12, x -> x.away(1, 0, 9999, 3));
        number("filled(10000, 0)", 5, x -> x.filled(10000, 0));
        number("filled(0, 10000)", 5, x -> x.filled(0, 10000));
        number("who(5, 0, 0)", 2, x -> x.who(5, 0, 0));
        number("who(0, -1, 0)", 5, x -> x.who(0, -1, 0));
        number("who(4, 0, 0): none", 8, x -> x.who(4, 0, 0));
        yesNo("mark(6, 0, 0, 1)", 2, x -> x.mark(6, 0, 0, 1));
        yesNo("mark(0, 9, 0, 1)", 2, x -> x.mark(0, 9, 0, 1));
        yesNo("mark(0, 0, 3, 1)", 2, x -> x.mark(0, 0, 3, 1));
        yesNo("mark(0, 0, 0, 101)", 5, x -> x.mark(0, 0, 0, 101));
        yesNo("mark(0, 0, 0, -2)", 5, x -> x.mark(0, 0, 0, -2));
        yesNo("weight(3, 2)", 2, x -> x.weight(3, 2));
        yesNo("weight(0, 10)", 5, x -> x.weight(0, 10));
        yesNo("weight(0, 0)", 5, x -> x.weight(0, 0));
        yesNo("total(6)", 2, x -> x.total(6));
        yesNo("total(1): a TRAIT has no MARK", 8, x -> x.total(1));
        number("rank(6)", 2, x -> x.rank(6));
        number("rank(1)", 8, x -> x.rank(1));
    }

    private static void ofFull() {
        number("marcher(0, 0, 0)", 7, x -> x.marcher(0, 0, 0));
        yesNo("prop(1, 1)", 7, x -> x.prop(1, 1));
        yesNo("prop(0, 30)", 7, x -> x.prop(0, 30));
        number("group(9, 1)", 7, x -> x.group(9, 1));
        number("group(8, 0)", 5, x -> x.group(8, 0));
        number("person(1)", 7, x -> x.person(1));
        yesNo("away(0, 0, 9999, 9)", 7, x -> x.away(0, 0, 9999, 9));
        yesNo("away(0, 0, 9999, 4)", 7, x -> x.away(0, 0, 9999, 4));
        number("orders(501)", 5, x -> x.orders(501));
        number("orders(-1)", 5, x -> x.orders(-1));
    }

    /** feed() has no STATUS, but NONE of it changes nothing either. */
    private static void feedOfFull() {
        Due.says("NONE if there would be more than 500.");
        for (Function<DrillField, List<Long>> view : VIEWS) {
            DrillField x = full();
            Due.is("feed of a full tape", x.feed(-1, -1, -1, -1, -1), -1);
            Due.yes("all is as it was", view.apply(x).equals(view.apply(full())));
        }
    }

    // ---- what can be seen of them, under 300 calls each

    private static void add(List<Long> seen, DrillField x, long answer) {
        seen.add(answer);
        seen.add((long) x.status());
    }

    private static List<Long> seeTrays(DrillField x) {
        List<Long> seen = new ArrayList<>();
        for (int tray = 0; tray < 4; tray++) {
            for (int place = 0; place <= 40; place++) {
                seen.add(x.read(tray, place));
            }
            seen.add((long) x.status());
            seen.add(x.pour(tray, 0, 0, 0, 0) ? 1L : 0L);
            seen.add((long) x.status());
        }
        return seen;
    }

    private static List<Long> seeRun(DrillField x) {
        List<Long> seen = new ArrayList<>();
        for (int what = 0; what < 5; what++) {
            add(seen, x, x.told(what));
        }
        for (int count : new int[] {0, 1, 3, 4, 12}) {
            for (int marcher = 0; marcher < 6; marcher++) {
                for (int what = 0; what < 3; what++) {
                    seen.add((long) x.at(count, marcher, what));
                }
            }
        }
        for (int i = 0; i < 9; i++) {
            add(seen, x, x.dressed(i, 1));
            add(seen, x, x.clash(i, i % 3));
            add(seen, x, x.like(0, i));
            add(seen, x, x.seen(i, 30, 2));
        }
        for (int what = 0; what < 2; what++) {
            seen.add((long) x.error(what));
            seen.add((long) x.fault(what));
        }
        add(seen, x, x.run());
        return seen;
    }

    /** Adds until it is refused: how many there were shows in it. */
    private static void fill(List<Long> seen, DrillField x, int most, BiConsumer<List<Long>, Integer> more) {
        for (int i = 0; i < most && x.status() == 0; i++) {
            more.accept(seen, i);
        }
    }

    private static List<Long> seeField(DrillField x) {
        List<Long> seen = new ArrayList<>();
        x.steps(3);
        Due.tell(x, "");
        x.run();
        add(seen, x, x.told(1));
        fill(seen, x, 21, (all, i) -> add(all, x, x.marcher(i, 2, 5)));
        x.run();
        for (int marcher = 0; marcher < 20; marcher++) {
            for (int what = 0; what < 3; what++) {
                seen.add((long) x.at(0, marcher, what));
            }
        }
        add(seen, x, x.told(1));
        fill(seen, x, 9, (all, i) -> add(all, x, x.group(i + 3, 0b11)));
        add(seen, x, Due.tell(x, "a: back 1; b: mark 1 turn 1; c: turn 2;"));
        add(seen, x, x.run());
        for (int marcher = 0; marcher < 6; marcher++) {
            seen.add((long) x.at(1, marcher, 0));
            seen.add((long) x.at(1, marcher, 2));
        }
        fill(seen, x, 31, (all, i) -> add(all, x, x.prop(i, 2) ? 1 : 0));
        return seen;
    }

    private static List<Long> seeTape(DrillField x) {
        List<Long> seen = new ArrayList<>();
        for (int what = 0; what < 2; what++) {
            seen.add((long) x.error(what));
            seen.add((long) x.fault(what));
        }
        add(seen, x, x.run());
        seen.add((long) x.feed(0x20202020, 0x20202020, 0x20202020, 0x20202020, 0x20203f20));
        add(seen, x, x.orders(500));
        add(seen, x, x.orders(20));
        seen.add((long) x.fault(0));
        seen.add((long) x.fault(1));
        add(seen, x, x.run());
        add(seen, x, x.told(2));
        return seen;
    }

    private static List<Long> seeGoesAndPath(DrillField x) {
        List<Long> seen = new ArrayList<>();
        for (int k = -2; k < 20; k++) {
            add(seen, x, x.spotOf(k));
            add(seen, x, x.move(k));
        }
        x.tray(3, 3, 12);
        for (int i = 0; i < 12; i++) {
            x.write(3, i, 3 * i + 1);
        }
        for (int many = 1; many <= 6; many++) {
            add(seen, x, x.goes(3, many, 7));
            add(seen, x, x.spotOf(0));
        }
        for (int marcher = 0; marcher < 6; marcher++) {
            add(seen, x, x.path(marcher, 20, 33, 4));
            add(seen, x, x.path(marcher, 11, 11, -1));
        }
        return seen;
    }

    private static List<Long> seePersons(DrillField x) {
        List<Long> seen = new ArrayList<>();
        for (int day : new int[] {0, 3, 5, 30, 9999}) {
            for (int known : new int[] {0, 4, 9999}) {
                add(seen, x, x.filled(day, known));
                for (int marcher = 0; marcher < 5; marcher++) {
                    seen.add((long) x.who(marcher, day, known));
                }
            }
        }
        add(seen, x, x.away(1, 5, 5, 4) ? 1 : 0);
        add(seen, x, x.filled(5, 4));
        fill(seen, x, 62, (all, i) -> add(all, x, x.away(0, 7, 7, 4) ? 1 : 0));
        add(seen, x, x.filled(7, 5));
        fill(seen, x, 17, (all, i) -> add(all, x, x.person(0)));
        return seen;
    }

    private static List<Long> seeMarks(DrillField x) {
        List<Long> seen = new ArrayList<>();
        seen.add(x.upper());
        seen.add(x.lower());
        for (int show = 0; show < 6; show++) {
            add(seen, x, x.rank(show));
            add(seen, x, x.total(show) ? 1 : 0);
            seen.add(x.upper());
            seen.add(x.lower());
        }
        return seen;
    }
}
