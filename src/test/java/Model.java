import java.math.BigInteger;
import java.util.ArrayDeque;
import java.util.ArrayList;
import java.util.Arrays;
import java.util.Collections;
import java.util.HashMap;
import java.util.HashSet;
import java.util.LinkedHashMap;
import java.util.List;
import java.util.Map;
import java.util.Set;
import java.util.regex.Matcher;
import java.util.regex.Pattern;

/**
 * The document once more, written with the Java library and by the plainest ways (all choices tried,
 * all lists laid out), so that ModelTest can set its answers beside those of DrillField.
 */
final class Model {
    private static final int NONE = -1;

    private record Token(String text, int place, char kind) {}

    private record Order(String word, int place, List<Integer> numbers, List<Order> within) {}

    private record Line(int set, List<Order> orders) {}

    private record Spot(int east, int north) {}

    private record Stand(Spot spot, int face) {}

    private record Clash(int count, int lesser, int greater) {}

    private record Away(int person, int from, int to, int known) {}

    private static final class Wrong extends RuntimeException {
        private static final long serialVersionUID = 1L;
        final int kind;
        final int place;

        Wrong(int kind, int place) {
            super(null, null, false, false);
            this.kind = kind;
            this.place = place;
        }
    }

    int status = 0;
    private final long[][] trays = new long[4][];
    private final int[] sorts = new int[4];
    private final List<Stand> marchers = new ArrayList<>();
    private final Set<Spot> props = new HashSet<>();
    private final List<Long> names = new ArrayList<>();
    private final List<Integer> sets = new ArrayList<>();
    private int longStep = 2;
    private String tape = "";
    private List<Line> text = null;
    private int[] fault = {NONE, NONE};
    private int[] error = {NONE, NONE};
    private List<List<Stand>> frames = null;
    private int notWell = 0;
    private List<Integer> goesTo = null;
    private int goesSum = 0;
    private String moves = null;
    private final List<Integer> persons = new ArrayList<>();
    private final List<Away> aways = new ArrayList<>();
    private final Map<List<Integer>, Integer> marks = new HashMap<>();
    private final int[] weights = {1, 1, 1};
    private BigInteger upper = BigInteger.ZERO;
    private BigInteger lower = BigInteger.ONE;

    private int no(int why) {
        status = why;
        return NONE;
    }

    private int ok(int answer) {
        status = 0;
        return answer;
    }

    /** Booleans are 1 and 0 here. */
    private int bad(int why) {
        status = why;
        return 0;
    }

    private static boolean in(long value, long least, long most) {
        return least <= value && value <= most;
    }

    int tray(int tray, int sort, int many) {
        if (!in(tray, 0, 3) || !in(sort, 0, 3)) return bad(1);
        if (many > 40) return bad(5);
        if (many < 0) return bad(6);
        trays[tray] = new long[many];
        sorts[tray] = sort;
        return ok(1);
    }

    private int place(int tray, int place) {
        if (!in(tray, 0, 3)) return 1;
        if (trays[tray] == null) return 3;
        return in(place, 0, trays[tray].length - 1) ? 0 : 4;
    }

    int write(int tray, int place, long v) {
        if (place(tray, place) != 0) return bad(place(tray, place));
        int bits = 8 << sorts[tray];
        BigInteger cut = BigInteger.valueOf(v).mod(BigInteger.ONE.shiftLeft(bits));
        if (cut.testBit(bits - 1)) cut = cut.subtract(BigInteger.ONE.shiftLeft(bits));
        trays[tray][place] = cut.longValueExact();
        return ok(1);
    }

    long read(int tray, int place) {
        if (place(tray, place) != 0) return no(place(tray, place));
        ok(0);
        return trays[tray][place];
    }

    int pour(int tray, int i, int to, int j, int many) {
        if (!in(tray, 0, 3) || !in(to, 0, 3)) return bad(1);
        if (trays[tray] == null || trays[to] == null) return bad(3);
        if (sorts[tray] != sorts[to]) return bad(11);
        if (many < 0) return bad(6);
        if (i < 0 || (long) i + many > trays[tray].length) return bad(4);
        if (j < 0 || (long) j + many > trays[to].length) return bad(4);
        long[] taken = Arrays.copyOfRange(trays[tray], i, i + many);
        for (int k = 0; k < many; k++) trays[to][j + k] = taken[k];
        return ok(1);
    }

    int marcher(int east, int north, int face) {
        if (!onGround(east, north) || !in(face, 0, 7)) return no(5);
        if (marchers.size() == 20) return no(7);
        marchers.add(new Stand(new Spot(east, north), face));
        return ok(marchers.size() - 1);
    }

    private static boolean onGround(int east, int north) {
        return in(east, 0, 59) && in(north, 0, 39);
    }

    int prop(int east, int north) {
        if (!onGround(east, north)) return bad(5);
        if (props.size() == 30) return bad(7);
        return props.add(new Spot(east, north)) ? ok(1) : bad(9);
    }

    private static String letters(long name) {
        if (name <= 0) return null;
        StringBuilder word = new StringBuilder();
        for (long rest = name; rest != 0; rest /= 32) {
            if (!in(rest % 32, 1, 26)) return null;
            word.insert(0, (char) ('a' - 1 + rest % 32));
        }
        return word.length() <= 8 ? word.toString() : null;
    }

    private boolean hasSet(int set) {
        return in(set, 0, (1L << marchers.size()) - 1);
    }

    int group(long name, int set) {
        if (letters(name) == null || !hasSet(set) || set == 0) return no(5);
        int old = names.indexOf(name);
        if (old >= 0) {
            sets.set(old, set);
            return ok(old);
        }
        if (names.size() == 8) return no(7);
        names.add(name);
        sets.add(set);
        return ok(names.size() - 1);
    }

    int steps(int much) {
        if (!in(much, 1, 50)) return bad(5);
        longStep = much;
        return ok(1);
    }

    int feed(int... fives) {
        if (tape.length() + 20 > 500) return NONE;
        for (int five : fives) {
            for (int k = 3; k >= 0; k--) tape += (char) (five >>> 8 * k & 255);
        }
        return tape.length();
    }

    // ---- the TEXT

    private static final Pattern TOKEN = Pattern.compile("[a-z]+|[0-9]+|[:;{}-]");
    private List<Token> tokens;
    private int at;
    private int orderCount;

    int orders(int n) {
        if (!in(n, 0, tape.length())) return no(5);
        String source = tape.substring(0, n);
        tape = "";
        try {
            text = parse(source);
            fault = new int[] {0, NONE};
            return ok(orderCount);
        } catch (Wrong wrong) {
            fault = new int[] {wrong.kind, wrong.place};
            return no(10);
        }
    }

    private static List<Token> tokensOf(String source) {
        List<Token> found = new ArrayList<>();
        Matcher matcher = TOKEN.matcher(source);
        int place = 0;
        while (place < source.length()) {
            char sign = source.charAt(place);
            if (sign == 10 || sign == 32) {
                place++;
                continue;
            }
            if (!matcher.find(place) || matcher.start() != place) {
                found.add(new Token("", place, '?'));
                return found;
            }
            String token = matcher.group();
            boolean digits = Character.isDigit(token.charAt(0));
            char kind = digits ? '9' : Character.isLetter(token.charAt(0)) ? 'a' : token.charAt(0);
            if (digits && token.length() > 3) kind = '?';
            found.add(new Token(token, place, kind));
            place = matcher.end();
        }
        found.add(new Token("", source.length(), '.'));
        return found;
    }

    private Token take(String kinds) {
        Token token = tokens.get(at++);
        if (token.kind == '?') throw new Wrong(1, token.place);
        if (kinds.indexOf(token.kind) < 0) throw new Wrong(2, token.place);
        return token;
    }

    private List<Line> parse(String source) {
        tokens = tokensOf(source);
        at = 0;
        orderCount = 0;
        List<Line> lines = new ArrayList<>();
        Set<String> seen = new HashSet<>();
        while (true) {
            Token name = take("a.");
            if (name.kind == '.') return lines;
            int group = NONE;
            for (int g = 0; g < names.size(); g++) {
                if (letters(names.get(g)).equals(name.text)) group = g;
            }
            if (group == NONE || !seen.add(name.text)) throw new Wrong(3, name.place);
            take(":");
            lines.add(new Line(sets.get(group), parseOrders(";", 0)));
        }
    }

    private List<Order> parseOrders(String close, int depth) {
        List<Order> orders = new ArrayList<>();
        while (true) {
            Token token = take("a" + close);
            if (token.kind != 'a') return orders;
            if (!Set.of("go", "back", "mark", "halt", "follow", "turn", "wheel", "open", "close", "shift", "again")
                    .contains(token.text)) throw new Wrong(2, token.place);
            if (++orderCount > 60) throw new Wrong(5, token.place);
            if (token.text.equals("again") && depth == 3) throw new Wrong(6, token.place);
            orders.add(parseOrder(token, depth));
        }
    }

    private Order parseOrder(Token word, int depth) {
        List<Integer> numbers = new ArrayList<>();
        List<Order> within = List.of();
        switch (word.text) {
            case "turn" -> numbers.add(number(1, 7));
            case "wheel" -> {
                Token side = take("a");
                if (!side.text.equals("left") && !side.text.equals("right")) throw new Wrong(2, side.place);
                numbers.add(side.text.equals("left") ? 1 : -1);
                numbers.add(number(1, 99));
            }
            case "open", "close" -> {
                numbers.add(number(2, 5));
                numbers.add(number(1, 99));
            }
            case "shift" -> {
                numbers.add(whole());
                numbers.add(whole());
                numbers.add(number(1, 99));
            }
            case "again" -> {
                numbers.add(number(2, 20));
                take("{");
                within = parseOrders("}", depth + 1);
            }
            default -> numbers.add(number(1, 99));
        }
        return new Order(word.text, word.place, numbers, within);
    }

    private int number(int least, int most) {
        Token token = take("9");
        int value = Integer.parseInt(token.text);
        if (!in(value, least, most)) throw new Wrong(4, token.place);
        return value;
    }

    private int whole() {
        if (tokens.get(at).kind != '-') return number(0, 59);
        at++;
        return -number(0, 59);
    }

    int fault(int what) {
        return in(what, 0, 1) ? fault[what] : NONE;
    }

    // ---- the RUN

    int run() {
        if (text == null) return no(8);
        try {
            List<List<Stand>> tracks = new ArrayList<>();
            for (Stand stand : marchers) tracks.add(new ArrayList<>(List.of(stand)));
            int unwell = 0;
            int last = 0;
            Set<Integer> led = new HashSet<>();
            for (Line line : text) {
                List<Integer> body = new ArrayList<>();
                for (int m = 0; m < 20; m++) {
                    if ((line.set >> m & 1) == 1 && led.add(m)) body.add(m);
                }
                int[] tally = lead(line, body, tracks);
                unwell += tally[0];
                last = Math.max(last, tally[1]);
            }
            List<List<Stand>> made = new ArrayList<>();
            for (int count = 0; count <= last; count++) {
                List<Stand> frame = new ArrayList<>();
                for (List<Stand> track : tracks) frame.add(track.get(Math.min(count, track.size() - 1)));
                made.add(frame);
            }
            frames = made;
            notWell = unwell;
            error = new int[] {0, NONE};
            return ok(last);
        } catch (Wrong wrong) {
            error = new int[] {wrong.kind, wrong.place};
            return no(10);
        }
    }

    private static void unroll(List<Order> orders, List<Order> done) {
        for (Order order : orders) {
            if (done.size() > 500) return;
            done.add(order);
            if (order.word.equals("again")) {
                for (int i = 0; i < order.numbers.get(0); i++) unroll(order.within, done);
            }
        }
    }

    /** Leads a BODY along its tracks: how many turns are not WELL, how many counts there are. */
    private static int[] lead(Line line, List<Integer> body, List<List<Stand>> tracks) {
        List<Order> done = new ArrayList<>();
        unroll(line.orders, done);
        int counts = 0;
        int unwell = 0;
        String foot = "none";
        for (int k = 0; k < done.size(); k++) {
            Order order = done.get(k);
            if (k == 500) throw new Wrong(1, order.place);
            int n = order.word.equals("turn") || order.word.equals("again") ? 0
                    : order.numbers.get(order.numbers.size() - 1);
            counts += n;
            if (counts > 150) throw new Wrong(2, order.place);
            if (order.word.equals("turn")) {
                int eighths = order.numbers.get(0);
                for (int m : body) turn(tracks.get(m), eighths);
                if (eighths < 4 && foot.equals("right") || eighths > 4 && foot.equals("left")) unwell++;
            } else if (n > 0) {
                moveAll(order, n, body, tracks);
            }
            for (int j = 0; j < n; j++) {
                foot = order.word.equals("halt") ? "none" : foot.equals("left") ? "right" : "left";
            }
        }
        return new int[] {unwell, counts};
    }

    private static Stand lastOf(List<Stand> track) {
        return track.get(track.size() - 1);
    }

    private static void turn(List<Stand> track, int eighths) {
        Stand stand = lastOf(track);
        track.set(track.size() - 1, new Stand(stand.spot, Math.floorMod(stand.face + eighths, 8)));
    }

    private static Spot ahead(Stand stand, int way) {
        int east = List.of(0, 1, 1, 1, 0, -1, -1, -1).get(stand.face);
        int north = List.of(0, 1, 1, 1, 0, -1, -1, -1).get((stand.face + 2) % 8);
        return new Spot(stand.spot.east + way * east, stand.spot.north + way * north);
    }

    private static void add(List<Stand> track, Spot spot, int face, Order order) {
        if (!onGround(spot.east, spot.north)) throw new Wrong(4, order.place);
        track.add(new Stand(spot, face));
    }

    private static void moveAll(Order order, int n, List<Integer> body, List<List<Stand>> tracks) {
        switch (order.word) {
            case "go", "back", "mark", "halt" -> {
                int way = order.word.equals("go") ? 1 : order.word.equals("back") ? -1 : 0;
                for (int m : body) {
                    for (int j = 0; j < n; j++) {
                        Stand stand = lastOf(tracks.get(m));
                        add(tracks.get(m), ahead(stand, way), stand.face, order);
                    }
                }
            }
            case "follow" -> {
                for (int j = 0; j < n; j++) {
                    List<Stand> before = new ArrayList<>();
                    for (int m : body) before.add(lastOf(tracks.get(m)));
                    for (int i = 0; i < body.size(); i++) {
                        Stand from = before.get(Math.max(0, i - 1));
                        add(tracks.get(body.get(i)), i == 0 ? ahead(from, 1) : from.spot, from.face, order);
                    }
                }
            }
            default -> slideAll(order, n, body, tracks);
        }
    }

    private static void slideAll(Order order, int n, List<Integer> body, List<List<Stand>> tracks) {
        if (body.isEmpty()) return;
        Spot pivot = lastOf(tracks.get(body.get(0))).spot;
        Map<Integer, Spot> aims = new LinkedHashMap<>();
        int k = order.numbers.get(0);
        for (int m : body) {
            Spot own = lastOf(tracks.get(m)).spot;
            int e = own.east - pivot.east;
            int nn = own.north - pivot.north;
            switch (order.word) {
                case "wheel" -> aims.put(m, k == 1 ? new Spot(pivot.east - nn, pivot.north + e)
                        : new Spot(pivot.east + nn, pivot.north - e));
                case "open" -> aims.put(m, new Spot(pivot.east + k * e, pivot.north + k * nn));
                case "close" -> {
                    if (e % k != 0 || nn % k != 0) throw new Wrong(3, order.place);
                    aims.put(m, new Spot(pivot.east + e / k, pivot.north + nn / k));
                }
                default -> aims.put(m, new Spot(own.east + k, own.north + order.numbers.get(1)));
            }
        }
        for (int m : body) {
            Stand start = lastOf(tracks.get(m));
            for (int j = 1; j <= n; j++) add(tracks.get(m), part(start.spot, aims.get(m), j, n), start.face, order);
            if (order.word.equals("wheel")) turn(tracks.get(m), -2 * k);
        }
    }

    private static Spot part(Spot from, Spot to, int j, int n) {
        return new Spot(part(from.east, to.east, j, n), part(from.north, to.north, j, n));
    }

    private static int part(int from, int to, int j, int n) {
        return Math.floorDiv(2 * (from * (n - j) + to * j) + n, 2 * n);
    }

    int error(int what) {
        return in(what, 0, 1) ? error[what] : NONE;
    }

    private boolean hasCount(int count) {
        return in(count, 0, frames.size() - 1);
    }

    int at(int count, int marcher, int what) {
        if (frames == null) return no(8);
        if (!hasCount(count) || !in(marcher, 0, frames.get(0).size() - 1)) return no(2);
        if (!in(what, 0, 2)) return no(5);
        Stand stand = frames.get(count).get(marcher);
        return ok(what == 0 ? stand.spot.east : what == 1 ? stand.spot.north : stand.face);
    }

    private static List<Clash> clashesOf(List<List<Spot>> figures) {
        List<Clash> found = new ArrayList<>();
        for (int count = 0; count < figures.size(); count++) {
            List<Spot> now = figures.get(count);
            List<Spot> then = count == 0 ? null : figures.get(count - 1);
            for (int a = 0; a < now.size(); a++) {
                for (int b = a + 1; b < now.size(); b++) {
                    boolean exchanged = then != null && now.get(a).equals(then.get(b)) && now.get(b).equals(then.get(a));
                    if (now.get(a).equals(now.get(b)) || exchanged) found.add(new Clash(count, a, b));
                }
            }
        }
        return found;
    }

    private List<Spot> figure(int count) {
        List<Spot> spots = new ArrayList<>();
        for (Stand stand : frames.get(count)) spots.add(stand.spot);
        return spots;
    }

    private List<Clash> clashes() {
        List<List<Spot>> figures = new ArrayList<>();
        for (int count = 0; count < frames.size(); count++) figures.add(figure(count));
        return clashesOf(figures);
    }

    private static int square(Spot a, Spot b) {
        return (a.east - b.east) * (a.east - b.east) + (a.north - b.north) * (a.north - b.north);
    }

    int told(int what) {
        if (!in(what, 0, 4)) return no(5);
        if (frames == null) return no(8);
        if (what == 0) return ok(clashes().size());
        if (what == 3) return ok(notWell);
        int hits = 0;
        int longs = 0;
        int greatest = 0;
        for (int count = 0; count < frames.size(); count++) {
            for (int m = 0; m < frames.get(0).size(); m++) {
                if (props.contains(figure(count).get(m))) hits++;
                if (count > 0) {
                    int step = square(figure(count).get(m), figure(count - 1).get(m));
                    if (step > longStep) longs++;
                    greatest = Math.max(greatest, step);
                }
            }
        }
        return ok(what == 1 ? hits : what == 2 ? longs : greatest);
    }

    int clash(int k, int what) {
        if (!in(what, 0, 2)) return no(5);
        if (frames == null || !in(k, 0, clashes().size() - 1)) return no(8);
        Clash clash = clashes().get(k);
        return ok(what == 0 ? clash.count : what == 1 ? clash.lesser : clash.greater);
    }

    int dressed(int group, int count) {
        if (frames == null) return no(8);
        if (!in(group, 0, names.size() - 1) || !hasCount(count)) return no(2);
        if (sets.get(group) >= 1 << frames.get(0).size()) return no(2);
        Set<Spot> gaps = new HashSet<>();
        Spot before = null;
        for (int m = 0; m < frames.get(0).size(); m++) {
            if ((sets.get(group) >> m & 1) == 0) continue;
            Spot own = figure(count).get(m);
            if (before != null) gaps.add(new Spot(own.east - before.east, own.north - before.north));
            before = own;
        }
        return ok(gaps.size() <= 1 ? 1 : 0);
    }

    int like(int count, int other) {
        if (frames == null) return no(8);
        if (!hasCount(count) || !hasCount(other)) return no(2);
        List<String> want = layout(figure(other));
        for (int way = 0; way < 8; way++) {
            List<Spot> moved = new ArrayList<>();
            for (Spot spot : figure(count)) {
                Spot now = way < 4 ? spot : new Spot(-spot.east, spot.north);
                for (int i = 0; i < way % 4; i++) now = new Spot(now.north, -now.east);
                moved.add(now);
            }
            if (layout(moved).equals(want)) return ok(way);
        }
        return no(8);
    }

    private static List<String> layout(List<Spot> spots) {
        int east = spots.stream().mapToInt(Spot::east).min().orElse(0);
        int north = spots.stream().mapToInt(Spot::north).min().orElse(0);
        List<String> found = new ArrayList<>();
        for (Spot spot : spots) found.add((spot.east - east) + " " + (spot.north - north));
        Collections.sort(found);
        return found;
    }

    int seen(int count, int east, int below) {
        if (frames == null) return no(8);
        if (!hasCount(count)) return no(2);
        if (!in(east, 0, 59) || !in(below, 1, 40)) return no(5);
        int found = 0;
        for (Spot own : figure(count)) {
            boolean hidden = false;
            int gap = Math.max(1, BigInteger.valueOf(own.east - east)
                    .gcd(BigInteger.valueOf(own.north + below)).intValue());
            for (int k = 1; k < gap; k++) {
                Spot between = new Spot(east + (own.east - east) / gap * k, -below + (own.north + below) / gap * k);
                hidden |= figure(count).contains(between);
            }
            if (!hidden) found++;
        }
        return ok(found);
    }

    // ---- GOES, PATHS

    int goes(int tray, int many, int counts) {
        if (!in(tray, 0, 3)) return no(1);
        if (trays[tray] == null) return no(3);
        if (!in(many, 1, Math.min(6, marchers.size())) || !in(counts, 1, 40)) return no(5);
        if (trays[tray].length < 2 * many) return no(4);
        List<Spot> spots = new ArrayList<>();
        for (int s = 0; s < many; s++) {
            long east = trays[tray][2 * s];
            long north = trays[tray][2 * s + 1];
            if (!in(east, 0, 59) || !in(north, 0, 39)) return no(5);
            spots.add(new Spot((int) east, (int) north));
        }
        if (new HashSet<>(spots).size() < many) return no(5);
        List<List<Integer>> orders = new ArrayList<>();
        permute(new ArrayList<>(), many, orders);
        List<Integer> best = null;
        int[] bestCost = null;
        for (List<Integer> order : orders) {
            List<List<Spot>> figures = new ArrayList<>();
            for (int j = 0; j <= counts; j++) {
                List<Spot> figure = new ArrayList<>();
                for (int m = 0; m < many; m++) {
                    figure.add(part(marchers.get(m).spot, spots.get(order.get(m)), j, counts));
                }
                figures.add(figure);
            }
            if (!clashesOf(figures).isEmpty()) continue;
            int[] cost = {0, 0};
            for (int m = 0; m < many; m++) {
                int way = square(marchers.get(m).spot, spots.get(order.get(m)));
                cost[0] = Math.max(cost[0], way);
                cost[1] += way;
            }
            if (best == null || Arrays.compare(cost, bestCost) < 0) {
                best = order;
                bestCost = cost;
            }
        }
        if (best == null) return no(8);
        goesTo = best;
        goesSum = bestCost[1];
        return ok(bestCost[0]);
    }

    private static void permute(List<Integer> ahead, int many, List<List<Integer>> found) {
        if (ahead.size() == many) {
            found.add(new ArrayList<>(ahead));
            return;
        }
        for (int s = 0; s < many; s++) {
            if (ahead.contains(s)) continue;
            ahead.add(s);
            permute(ahead, many, found);
            ahead.remove(ahead.size() - 1);
        }
    }

    int spotOf(int marcher) {
        if (goesTo == null || !in(marcher, -1, goesTo.size() - 1)) return no(8);
        return ok(marcher == NONE ? goesSum : goesTo.get(marcher));
    }

    /** Distances back from the goals; then the least move that comes nearer, count by count. */
    int path(int marcher, int east, int north, int face) {
        if (!in(marcher, 0, marchers.size() - 1)) return no(2);
        if (!onGround(east, north) || !in(face, -1, 7)) return no(5);
        Stand begin = marchers.get(marcher);
        Set<Spot> shut = new HashSet<>(props);
        for (Stand other : marchers) shut.add(other.spot);
        shut.remove(begin.spot);
        Map<Stand, Integer> far = new HashMap<>();
        ArrayDeque<Stand> queue = new ArrayDeque<>();
        for (int f = 0; f < 8; f++) {
            Stand goal = new Stand(new Spot(east, north), f);
            if ((face == NONE || face == f) && !shut.contains(goal.spot)) {
                far.put(goal, 0);
                queue.add(goal);
            }
        }
        while (!queue.isEmpty()) {
            Stand stand = queue.remove();
            List<Stand> nexts = List.of(new Stand(ahead(stand, -1), stand.face),
                    new Stand(stand.spot, (stand.face + 1) % 8), new Stand(stand.spot, (stand.face + 7) % 8));
            for (Stand next : nexts) {
                if (onGround(next.spot.east, next.spot.north) && !shut.contains(next.spot)
                        && far.putIfAbsent(next, far.get(stand) + 1) == null) queue.add(next);
            }
        }
        if (!far.containsKey(begin)) return no(8);
        StringBuilder found = new StringBuilder();
        for (Stand stand = begin; far.get(stand) > 0; ) {
            List<Stand> nexts = List.of(new Stand(ahead(stand, 1), stand.face),
                    new Stand(stand.spot, (stand.face + 1) % 8), new Stand(stand.spot, (stand.face + 7) % 8));
            int move = 0;
            while (far.getOrDefault(nexts.get(move), 1 << 20) != far.get(stand) - 1) move++;
            found.append(move);
            stand = nexts.get(move);
        }
        moves = found.toString();
        return ok(moves.length());
    }

    int move(int k) {
        if (moves == null || !in(k, 0, moves.length() - 1)) return no(8);
        return ok(moves.charAt(k) - '0');
    }

    // ---- PERSONS, MARKS

    int person(int set) {
        if (!hasSet(set)) return no(5);
        if (persons.size() == 16) return no(7);
        persons.add(set);
        return ok(persons.size() - 1);
    }

    int away(int person, int from, int to, int known) {
        if (!in(person, 0, persons.size() - 1)) return bad(2);
        if (!in(from, 0, 9999) || !in(to, from, 9999) || !in(known, 0, 9999)) return bad(5);
        if (aways.size() == 60) return bad(7);
        for (Away away : aways) {
            if (away.known > known) return bad(12);
        }
        aways.add(new Away(person, from, to, known));
        return ok(1);
    }

    /** The most parts that MARCHERS from one on have of the PERSONS in a set, by all choices. */
    private int most(int marcher, int free, Map<Integer, Integer> known) {
        if (marcher == marchers.size() || free == 0) return 0;
        Integer old = known.get(marcher << 16 | free);
        if (old != null) return old;
        int best = most(marcher + 1, free, known);
        for (int p = 0; p < persons.size(); p++) {
            if ((free >> p & 1) == 1 && (persons.get(p) >> marcher & 1) == 1) {
                best = Math.max(best, 1 + most(marcher + 1, free & ~(1 << p), known));
            }
        }
        known.put(marcher << 16 | free, best);
        return best;
    }

    private List<Integer> fill(int day, int knownOn) {
        int free = (1 << persons.size()) - 1;
        for (Away away : aways) {
            if (away.known <= knownOn && in(day, away.from, away.to)) free &= ~(1 << away.person);
        }
        Map<Integer, Integer> known = new HashMap<>();
        List<Integer> found = new ArrayList<>();
        for (int m = 0; m < marchers.size(); m++) {
            int filler = NONE;
            for (int p = persons.size() - 1; p >= 0; p--) {
                if ((free >> p & 1) == 1 && (persons.get(p) >> m & 1) == 1
                        && 1 + most(m + 1, free & ~(1 << p), known) == most(m, free, known)) filler = p;
            }
            found.add(filler);
            if (filler != NONE) free &= ~(1 << filler);
        }
        return found;
    }

    int filled(int day, int known) {
        if (!in(day, 0, 9999) || !in(known, 0, 9999)) return no(5);
        int parts = 0;
        for (int filler : fill(day, known)) parts += filler == NONE ? 0 : 1;
        return ok(parts);
    }

    int who(int marcher, int day, int known) {
        if (!in(marcher, 0, marchers.size() - 1)) return no(2);
        if (!in(day, 0, 9999) || !in(known, 0, 9999)) return no(5);
        int filler = fill(day, known).get(marcher);
        return filler == NONE ? no(8) : ok(filler);
    }

    int mark(int show, int judge, int trait, int mark) {
        if (!in(show, 0, 5) || !in(judge, 0, 8) || !in(trait, 0, 2)) return bad(2);
        if (!in(mark, -1, 100)) return bad(5);
        marks.put(List.of(show, judge, trait), mark);
        return ok(1);
    }

    int weight(int trait, int weight) {
        if (!in(trait, 0, 2)) return bad(2);
        if (!in(weight, 1, 9)) return bad(5);
        weights[trait] = weight;
        return ok(1);
    }

    /** The TOTAL as upper and lower number, or null. */
    private BigInteger[] totalOf(int show) {
        BigInteger up = BigInteger.ZERO;
        BigInteger low = BigInteger.ONE;
        for (int trait = 0; trait < 3; trait++) {
            List<Integer> given = new ArrayList<>();
            for (int judge = 0; judge < 9; judge++) {
                int mark = marks.getOrDefault(List.of(show, judge, trait), NONE);
                if (mark != NONE) given.add(mark);
            }
            if (given.isEmpty()) return null;
            Collections.sort(given);
            if (given.size() >= 3) given = given.subList(1, given.size() - 1);
            int sum = 0;
            for (int mark : given) sum += mark;
            BigInteger many = BigInteger.valueOf(given.size());
            up = up.multiply(many).add(low.multiply(BigInteger.valueOf((long) sum * weights[trait])));
            low = low.multiply(many);
        }
        BigInteger common = up.gcd(low);
        return new BigInteger[] {up.divide(common), low.divide(common)};
    }

    int total(int show) {
        if (!in(show, 0, 5)) return bad(2);
        BigInteger[] total = totalOf(show);
        if (total == null) return bad(8);
        upper = total[0];
        lower = total[1];
        return ok(1);
    }

    long upper() {
        return upper.longValueExact();
    }

    long lower() {
        return lower.longValueExact();
    }

    int rank(int show) {
        if (!in(show, 0, 5)) return no(2);
        BigInteger[] own = totalOf(show);
        if (own == null) return no(8);
        int place = 1;
        for (int other = 0; other < 6; other++) {
            BigInteger[] total = totalOf(other);
            if (total != null && total[0].multiply(own[1]).compareTo(own[0].multiply(total[1])) > 0) place++;
        }
        return ok(place);
    }
}
