import java.util.ArrayList;
import java.util.List;
import java.util.Random;

/**
 * Promises 1 to 35: runs of calls (the same ones each time), each set beside the Model's answer and
 * STATUS. A call that is refused and changed something all the same shows in the answers behind it.
 */
public final class ModelTest {
    private static final int RUNS = 400;
    private static final int CALLS = 511;

    private final Random dice;
    private final DrillField x = new DrillField();
    private final Model model = new Model();
    private final List<String> words = new ArrayList<>(List.of("a", "b", "cd", "go", "abcdefgh", "again", "z", "left", "xy"));
    private final List<String> told = new ArrayList<>();
    private int calls = 0;
    private String trail = "";

    private ModelTest(int seed) {
        dice = new Random(seed);
    }

    public static void main(String[] args) {
        for (int seed = 1; seed <= RUNS; seed++) {
            new ModelTest(seed).play(seed);
        }
        Due.end("ModelTest");
    }

    private void same(String call, long got, long want) {
        calls++;
        Due.is(trail + call, got, want);
        Due.is(trail + call + ": status()", x.status(), model.status);
    }

    private void same(String call, boolean got, long want) {
        same(call, got ? 1 : 0, want);
    }

    private int pick(int many) {
        return dice.nextInt(many);
    }

    /** Mostly 0 to many - 1, now and then one beside it, or far off. */
    private int near(int many) {
        int kind = pick(40);
        if (kind == 0) return -1;
        if (kind == 1) return many;
        if (kind == 2) return List.of(Integer.MIN_VALUE, Integer.MAX_VALUE, -2, many + 1, 1 << 30).get(pick(5));
        return many <= 0 ? 0 : pick(many);
    }

    private void play(int seed) {
        trail = "seed " + seed + ": ";
        int theme = seed % 5;
        int begin = pick(8);
        for (int i = 0; i < begin; i++) marcher(theme);
        for (int i = 0; i < begin / 2; i++) group();
        for (int i = 0; i < begin && theme == 3; i++) person();
        while (calls < CALLS) {
            int area = pick(10);
            if (area < 5) area = theme;
            switch (area % 5) {
                case 0 -> orders();
                case 1 -> trays();
                case 2 -> goesAndPath();
                case 3 -> persons();
                default -> marks();
            }
            if (pick(12) == 0) marcher(theme);
            if (pick(8) == 0) group();
            if (pick(20) == 0) prop();
            if (pick(20) == 0) {
                int much = near(52);
                same("steps(" + much + ")", x.steps(much), model.steps(much));
            }
        }
    }

    private void marcher(int theme) {
        int east = pick(4) == 0 ? near(60) : 25 + pick(theme == 2 ? 5 : 8);
        int north = pick(4) == 0 ? near(40) : 15 + pick(theme == 2 ? 5 : 8);
        int face = near(8);
        same("marcher(" + east + ", " + north + ", " + face + ")", x.marcher(east, north, face), model.marcher(east, north, face));
    }

    private void prop() {
        int east = pick(2) == 0 ? near(60) : 24 + pick(9);
        int north = pick(2) == 0 ? near(40) : 14 + pick(9);
        same("prop(" + east + ", " + north + ")", x.prop(east, north), model.prop(east, north));
    }

    private int set() {
        int kind = pick(12);
        if (kind == 0) return 0;
        if (kind == 1) return dice.nextInt();
        return dice.nextInt(1 << 1 + pick(8));
    }

    private void group() {
        String word = words.get(pick(words.size()));
        long name = pick(10) == 0 ? dice.nextLong() >>> pick(64) : Due.word(word);
        int set = set();
        same("group(" + name + ", " + set + ")", x.group(name, set), model.group(name, set));
        if (model.status == 0 && !told.contains(word)) told.add(word);
    }

    private void trays() {
        int tray = near(4);
        switch (pick(4)) {
            case 0 -> {
                int sort = near(4);
                int many = near(41);
                same("tray(" + tray + ", " + sort + ", " + many + ")", x.tray(tray, sort, many), model.tray(tray, sort, many));
            }
            case 1 -> {
                int place = near(20);
                long v = dice.nextLong() >> pick(64);
                same("write(" + tray + ", " + place + ", " + v + ")", x.write(tray, place, v), model.write(tray, place, v));
            }
            case 2 -> {
                int place = near(20);
                same("read(" + tray + ", " + place + ")", x.read(tray, place), model.read(tray, place));
            }
            default -> {
                int i = near(8);
                int to = near(4);
                int j = near(8);
                int many = near(12);
                same("pour(" + tray + ", " + i + ", " + to + ", " + j + ", " + many + ")",
                        x.pour(tray, i, to, j, many), model.pour(tray, i, to, j, many));
            }
        }
    }

    // ---- texts

    private String blank() {
        return List.of(" ", "", "\n", "  ").get(pick(4));
    }

    private String number(int least, int most) {
        if (pick(200) == 0) return String.valueOf(pick(1200));
        return String.valueOf(least + pick(most - least + 1));
    }

    private String order(int depth) {
        String counts = pick(15) == 0 ? number(1, 99) : number(1, 6);
        switch (pick(depth > 0 ? 14 : 12)) {
            case 0:
                return "go " + counts;
            case 1:
                return "back " + counts;
            case 2:
                return "mark " + counts;
            case 3:
                return "halt " + counts;
            case 4:
                return "follow " + counts;
            case 5:
            case 6:
                return "turn " + number(1, 7);
            case 7:
            case 8:
                return "wheel " + (pick(2) == 0 ? "left " : "right ") + counts;
            case 9:
                return "open " + number(2, 3) + " " + counts;
            case 10:
                return "close " + number(2, 3) + " " + counts;
            case 11:
                return "shift " + (pick(2) == 0 ? "-" : "") + number(0, 7) + " " + (pick(2) == 0 ? "- " : "")
                        + number(0, 7) + " " + counts;
            default:
                return "again " + (pick(6) == 0 ? number(2, 20) : number(2, 3)) + blank() + "{" + blank()
                        + someOrders(depth - 1, 3) + "}";
        }
    }

    private String someOrders(int depth, int most) {
        StringBuilder text = new StringBuilder();
        int many = pick(most + 1);
        for (int i = 0; i < many; i++) {
            text.append(order(depth)).append(pick(3) == 0 ? "" : " ").append(blank());
        }
        return text.toString();
    }

    private String text() {
        StringBuilder text = new StringBuilder();
        List<String> names = pick(10) == 0 || told.isEmpty() ? words : told;
        int lines = pick(10) == 0 ? pick(9) : 1 + pick(Math.min(4, names.size()));
        int first = pick(names.size());
        for (int i = 0; i < lines; i++) {
            String name = names.get((first + (pick(20) == 0 ? 0 : i)) % names.size());
            int most = pick(20) == 0 ? 40 : 5;
            text.append(name).append(blank()).append(":").append(blank())
                    .append(someOrders(pick(20) == 0 ? 4 : 3, most)).append(";").append(blank());
        }
        if (pick(5) == 0 && text.length() > 0) {
            int place = pick(text.length());
            String odd = "az019:;{}- \n?A`/\0\u0080";
            text.setCharAt(place, odd.charAt(pick(odd.length())));
        }
        return text.length() > 500 ? text.substring(0, 500) : text.toString();
    }

    private void tell(String text) {
        for (int i = 0; i < text.length(); i += 20) {
            int[] f = new int[5];
            for (int k = 0; k < 5; k++) f[k] = Due.fourBytes(text, i + 4 * k);
            same("feed", x.feed(f[0], f[1], f[2], f[3], f[4]), model.feed(f));
        }
        int n = pick(20) == 0 ? near(500) : text.length();
        same("orders(" + n + ") of " + text, x.orders(n), model.orders(n));
        same("fault(0) of " + text, x.fault(0), model.fault(0));
        same("fault(1) of " + text, x.fault(1), model.fault(1));
    }

    private void orders() {
        if (pick(30) == 0) {
            int[] f = {dice.nextInt(), 0, 0, 0, 0};
            same("feed", x.feed(f[0], f[1], f[2], f[3], f[4]), model.feed(f));
        }
        String text = text();
        tell(text);
        if (pick(15) != 0) {
            same("run() of " + text, x.run(), model.run());
            same("error(0) of " + text, x.error(0), model.error(0));
            same("error(1) of " + text, x.error(1), model.error(1));
        }
        int what = near(3);
        same("fault(" + what + ")", x.fault(what), model.fault(what));
        same("error(" + what + ")", x.error(what), model.error(what));
        for (int i = 0; i < 12; i++) {
            ask(text);
        }
    }

    private void ask(String text) {
        int count = near(pick(3) == 0 ? 12 : 4);
        switch (pick(6)) {
            case 0 -> {
                int marcher = near(8);
                int what = near(3);
                same("at(" + count + ", " + marcher + ", " + what + ") of " + text, x.at(count, marcher, what), model.at(count, marcher, what));
            }
            case 1 -> {
                int what = near(5);
                same("told(" + what + ") of " + text, x.told(what), model.told(what));
            }
            case 2 -> {
                int k = near(pick(2) == 0 ? 3 : 60);
                int what = near(3);
                same("clash(" + k + ", " + what + ") of " + text, x.clash(k, what), model.clash(k, what));
            }
            case 3 -> {
                int group = near(5);
                same("dressed(" + group + ", " + count + ") of " + text, x.dressed(group, count), model.dressed(group, count));
            }
            case 4 -> {
                int other = near(6);
                same("like(" + count + ", " + other + ") of " + text, x.like(count, other), model.like(count, other));
            }
            default -> {
                int east = pick(2) == 0 ? near(60) : 24 + pick(10);
                int below = pick(4) == 0 ? near(41) : 1 + pick(5);
                same("seen(" + count + ", " + east + ", " + below + ") of " + text, x.seen(count, east, below), model.seen(count, east, below));
            }
        }
    }

    // ---- GOES, PATHS

    private void goesAndPath() {
        if (pick(3) == 0) {
            int marcher = near(8);
            int east = pick(3) == 0 ? near(60) : 24 + pick(10);
            int north = pick(3) == 0 ? near(40) : 14 + pick(10);
            int face = pick(2) == 0 ? -1 : near(8);
            same("path(" + marcher + ", " + east + ", " + north + ", " + face + ")", x.path(marcher, east, north, face), model.path(marcher, east, north, face));
            for (int i = 0; i < 8; i++) {
                int k = near(24);
                same("move(" + k + ")", x.move(k), model.move(k));
            }
            return;
        }
        int many = pick(6) == 0 ? near(8) : 2 + pick(5);
        int tray = pick(2);
        if (pick(4) != 0) {
            int length = pick(10) == 0 ? 2 * many - 1 : 2 * many;
            int sort = pick(2) == 0 ? 3 : 0;
            same("tray(" + tray + ", " + sort + ", " + length + ")", x.tray(tray, sort, length), model.tray(tray, sort, length));
            for (int i = 0; i < Math.min(length, 14); i++) {
                long v = pick(60) == 0 ? near(100) : (i % 2 == 0 ? 25 : 15) + pick(6);
                same("write(" + tray + ", " + i + ", " + v + ")", x.write(tray, i, v), model.write(tray, i, v));
            }
        }
        int counts = pick(8) == 0 ? near(42) : 1 + pick(6);
        same("goes(" + tray + ", " + many + ", " + counts + ")", x.goes(tray, many, counts), model.goes(tray, many, counts));
        for (int marcher = -1; marcher < 4; marcher++) {
            int asked = pick(10) == 0 ? near(7) : marcher;
            same("spotOf(" + asked + ")", x.spotOf(asked), model.spotOf(asked));
        }
    }

    // ---- PERSONS, MARKS

    private int day() {
        return pick(15) == 0 ? near(10000) : pick(12);
    }

    private void person() {
        int set = pick(3) == 0 ? set() : 1 << pick(6) | 1 << pick(6) | 1 << pick(6);
        same("person(" + set + ")", x.person(set), model.person(set));
    }

    private void persons() {
        int kind = pick(9);
        if (kind == 0) {
            person();
        } else if (kind == 1) {
            int person = near(6);
            int from = day();
            int to = pick(5) == 0 ? day() : from + pick(4);
            int known = pick(5) == 0 ? day() : calls / 40;
            same("away(" + person + ", " + from + ", " + to + ", " + known + ")", x.away(person, from, to, known), model.away(person, from, to, known));
        } else if (kind < 4) {
            int day = day();
            int known = day();
            same("filled(" + day + ", " + known + ")", x.filled(day, known), model.filled(day, known));
        } else {
            int day = day();
            int known = day();
            int marcher = near(8);
            same("who(" + marcher + ", " + day + ", " + known + ")", x.who(marcher, day, known), model.who(marcher, day, known));
        }
    }

    private void marks() {
        int show = pick(2) == 0 ? pick(2) : near(6);
        int kind = pick(8);
        if (kind < 4) {
            int judge = near(9);
            int trait = near(3);
            int mark = pick(3) == 0 ? near(101) : pick(10);
            same("mark(" + show + ", " + judge + ", " + trait + ", " + mark + ")", x.mark(show, judge, trait, mark), model.mark(show, judge, trait, mark));
        } else if (kind == 4) {
            int trait = near(3);
            int weight = near(10);
            same("weight(" + trait + ", " + weight + ")", x.weight(trait, weight), model.weight(trait, weight));
        } else if (kind < 7) {
            same("total(" + show + ")", x.total(show), model.total(show));
            same("upper()", x.upper(), model.upper());
            same("lower()", x.lower(), model.lower());
        } else {
            same("rank(" + show + ")", x.rank(show), model.rank(show));
        }
    }
}
