import java.util.Arrays;

/**
 * A drill field: MARCHERS on a ground of SPOTS, led by a TEXT of ORDERS, with all that is asked of
 * it behind that. The words in capitals are those of the document.
 *
 * <p>This class only asks what a call's STATUS is and hands the rest to the classes inside it. All
 * rows are made once with the object (those of PATH at the first PATH) and used again, because what
 * a run of calls makes is counted.
 */
public final class DrillField {
    public static final int NONE = -1;

    private static final int FINE = 0;
    private static final int NO_TRAY = 1;
    private static final int NO_SUCH = 2;
    private static final int MISSING = 3;
    private static final int NO_PLACE = 4;
    private static final int BAD_NUMBER = 5;
    private static final int BELOW_ZERO = 6;
    private static final int TOO_MANY = 7;
    private static final int NOTHING = 8;
    private static final int ALREADY = 9;
    private static final int AT_FAULT = 10;
    private static final int UNLIKE = 11;
    private static final int GONE = 12;

    private static final int TRAYS = 4;
    private static final int LAST_DAY = 9999;

    private final Tray[] trays = new Tray[TRAYS];
    private final Ground ground = new Ground();
    private final Reader reader = new Reader();
    private final Drill drill = new Drill();
    private final Placing placing = new Placing();
    private final Ways ways = new Ways();
    private final Roster roster = new Roster();
    private final Scores scores = new Scores();

    // A TEXT with a FAULT and a RUN with an ERROR leave the one ahead as it was: each is made in
    // the spare one, and the two change places when it is well.
    private Text text = new Text();
    private Text spareText = new Text();
    private Course course = new Course();
    private Course spareCourse = new Course();

    private int latestStatus = FINE;
    private int faultKind = NONE;
    private int faultPlace = NONE;
    private int errorKind = NONE;
    private int errorPlace = NONE;

    public DrillField() {
        for (int i = 0; i < TRAYS; i++) {
            trays[i] = new Tray();
        }
    }

    public int status() {
        return latestStatus;
    }

    // ---- TRAYS

    public boolean tray(int tray, int sort, int many) {
        if (!isTray(tray) || sort < 0 || sort > 3) {
            return refuse(NO_TRAY);
        }
        if (many > Tray.LONGEST) {
            return refuse(BAD_NUMBER);
        }
        if (many < 0) {
            return refuse(BELOW_ZERO);
        }
        trays[tray].lay(sort, many);
        return agree();
    }

    public boolean write(int tray, int place, long v) {
        int wrong = placeStatus(tray, place);
        if (wrong != FINE) {
            return refuse(wrong);
        }
        trays[tray].put(place, v);
        return agree();
    }

    public long read(int tray, int place) {
        int wrong = placeStatus(tray, place);
        if (wrong != FINE) {
            return none(wrong);
        }
        latestStatus = FINE;
        return trays[tray].row[place];
    }

    public boolean pour(int tray, int i, int to, int j, int many) {
        if (!isTray(tray) || !isTray(to)) {
            return refuse(NO_TRAY);
        }
        Tray from = trays[tray];
        Tray into = trays[to];
        if (!from.laid || !into.laid) {
            return refuse(MISSING);
        }
        if (from.sort != into.sort) {
            return refuse(UNLIKE);
        }
        if (many < 0) {
            return refuse(BELOW_ZERO);
        }
        if (!from.hasRange(i, many) || !into.hasRange(j, many)) {
            return refuse(NO_PLACE);
        }
        System.arraycopy(from.row, i, into.row, j, many);
        return agree();
    }

    // ---- the field

    public int marcher(int east, int north, int face) {
        if (!Ground.isSpot(east, north) || !Ground.isFace(face)) {
            return none(BAD_NUMBER);
        }
        if (ground.marchers >= Ground.MOST_MARCHERS) {
            return none(TOO_MANY);
        }
        return answer(ground.addMarcher(east, north, face));
    }

    public boolean prop(int east, int north) {
        if (!Ground.isSpot(east, north)) {
            return refuse(BAD_NUMBER);
        }
        if (ground.props >= Ground.MOST_PROPS) {
            return refuse(TOO_MANY);
        }
        if (ground.hasProp(east, north)) {
            return refuse(ALREADY);
        }
        ground.addProp(east, north);
        return agree();
    }

    public int group(long name, int set) {
        if (!Ground.isName(name) || set == 0 || !ground.isSet(set)) {
            return none(BAD_NUMBER);
        }
        int known = ground.groupNamed(name);
        if (known == NONE && ground.groups >= Ground.MOST_GROUPS) {
            return none(TOO_MANY);
        }
        return answer(ground.tellGroup(known, name, set));
    }

    public boolean steps(int much) {
        if (much < 1 || much > 50) {
            return refuse(BAD_NUMBER);
        }
        ground.longStep = much;
        return agree();
    }

    // ---- ORDERS

    public int feed(int a, int b, int c, int d, int e) {
        if (!reader.hasRoomForTwenty()) {
            return NONE;
        }
        reader.append(a);
        reader.append(b);
        reader.append(c);
        reader.append(d);
        reader.append(e);
        return reader.length;
    }

    public int orders(int n) {
        if (n < 0 || n > reader.length) {
            return none(BAD_NUMBER);
        }
        reader.readText(n, spareText, ground);
        reader.length = 0;
        faultKind = reader.faultKind;
        faultPlace = reader.faultPlace;
        if (faultKind != 0) {
            return none(AT_FAULT);
        }
        Text behind = text;
        text = spareText;
        spareText = behind;
        return answer(text.orders);
    }

    public int fault(int what) {
        return what == 0 ? faultKind : what == 1 ? faultPlace : NONE;
    }

    public int run() {
        if (!text.told) {
            return none(NOTHING);
        }
        drill.stepThrough(text, ground, spareCourse);
        errorKind = drill.errorKind;
        errorPlace = drill.errorPlace;
        if (errorKind != 0) {
            return none(AT_FAULT);
        }
        Course behind = course;
        course = spareCourse;
        spareCourse = behind;
        return answer(course.last);
    }

    public int error(int what) {
        return what == 0 ? errorKind : what == 1 ? errorPlace : NONE;
    }

    public int at(int count, int marcher, int what) {
        if (!course.made) {
            return none(NOTHING);
        }
        if (!course.hasCount(count) || !course.hasMarcher(marcher)) {
            return none(NO_SUCH);
        }
        if (what == 0) {
            return answer(course.eastOf(count, marcher));
        }
        if (what == 1) {
            return answer(course.northOf(count, marcher));
        }
        if (what == 2) {
            return answer(course.faceOf(count, marcher));
        }
        return none(BAD_NUMBER);
    }

    public int told(int what) {
        if (what < 0 || what > 4) {
            return none(BAD_NUMBER);
        }
        if (!course.made) {
            return none(NOTHING);
        }
        switch (what) {
            case 0:
                return answer(course.clashes());
            case 1:
                return answer(course.hits(ground));
            case 2:
                return answer(course.stepsAbove(ground.longStep));
            case 3:
                return answer(course.turnsNotWell);
            default:
                return answer(course.greatestStep());
        }
    }

    public int clash(int k, int what) {
        if (what < 0 || what > 2) {
            return none(BAD_NUMBER);
        }
        int found = course.made ? course.findClash(k) : NONE;
        if (found == NONE) {
            return none(NOTHING);
        }
        if (what == 0) {
            return answer(Course.countOfClash(found));
        }
        return answer(what == 1 ? Course.lesserOfClash(found) : Course.greaterOfClash(found));
    }

    public int dressed(int group, int count) {
        if (!course.made) {
            return none(NOTHING);
        }
        if (group < 0 || group >= ground.groups || !course.hasCount(count)) {
            return none(NO_SUCH);
        }
        int set = ground.groupSet[group];
        if (!course.hasAll(set)) {
            return none(NO_SUCH);
        }
        return answer(course.isDressed(set, count) ? 1 : 0);
    }

    public int like(int count, int other) {
        if (!course.made) {
            return none(NOTHING);
        }
        if (!course.hasCount(count) || !course.hasCount(other)) {
            return none(NO_SUCH);
        }
        int way = course.likeness(count, other);
        return way == NONE ? none(NOTHING) : answer(way);
    }

    public int seen(int count, int east, int below) {
        if (!course.made) {
            return none(NOTHING);
        }
        if (!course.hasCount(count)) {
            return none(NO_SUCH);
        }
        if (east < 0 || east >= Ground.EASTS || below < 1 || below > 40) {
            return none(BAD_NUMBER);
        }
        return answer(course.seenFrom(count, east, below));
    }

    // ---- GOES, PATHS

    public int goes(int tray, int many, int counts) {
        if (!isTray(tray)) {
            return none(NO_TRAY);
        }
        Tray spots = trays[tray];
        if (!spots.laid) {
            return none(MISSING);
        }
        if (many < 1 || many > Placing.MOST || many > ground.marchers
                || counts < 1 || counts > Placing.MOST_COUNTS) {
            return none(BAD_NUMBER);
        }
        if (!spots.hasRange(0, 2 * many)) {
            return none(NO_PLACE);
        }
        if (!placing.takeSpots(spots, many)) {
            return none(BAD_NUMBER);
        }
        if (!placing.search(ground, many, counts)) {
            return none(NOTHING);
        }
        return answer(placing.greatest);
    }

    public int spotOf(int marcher) {
        if (marcher < NONE || marcher >= placing.placed || placing.placed == 0) {
            return none(NOTHING);
        }
        return answer(marcher == NONE ? placing.sum : placing.spotFor[marcher]);
    }

    public int path(int marcher, int east, int north, int face) {
        if (!ground.hasMarcher(marcher)) {
            return none(NO_SUCH);
        }
        if (!Ground.isSpot(east, north) || (face != NONE && !Ground.isFace(face))) {
            return none(BAD_NUMBER);
        }
        if (!ways.search(ground, marcher, Ground.spot(east, north), face)) {
            return none(NOTHING);
        }
        return answer(ways.length);
    }

    public int move(int k) {
        int found = ways.moveAt(k);
        return found == NONE ? none(NOTHING) : answer(found);
    }

    // ---- PERSONS, MARKS

    public int person(int set) {
        if (!ground.isSet(set)) {
            return none(BAD_NUMBER);
        }
        if (roster.persons >= Roster.MOST_PERSONS) {
            return none(TOO_MANY);
        }
        return answer(roster.addPerson(set));
    }

    public boolean away(int person, int from, int to, int known) {
        if (person < 0 || person >= roster.persons) {
            return refuse(NO_SUCH);
        }
        if (!isDay(from) || !isDay(to) || !isDay(known) || from > to) {
            return refuse(BAD_NUMBER);
        }
        if (roster.aways >= Roster.MOST_AWAYS) {
            return refuse(TOO_MANY);
        }
        if (known < roster.latestKnown) {
            return refuse(GONE);
        }
        roster.addAway(person, from, to, known);
        return agree();
    }

    public int filled(int day, int known) {
        if (!isDay(day) || !isDay(known)) {
            return none(BAD_NUMBER);
        }
        return answer(roster.fill(ground.marchers, day, known));
    }

    public int who(int marcher, int day, int known) {
        if (!ground.hasMarcher(marcher)) {
            return none(NO_SUCH);
        }
        if (!isDay(day) || !isDay(known)) {
            return none(BAD_NUMBER);
        }
        roster.fill(ground.marchers, day, known);
        int filler = roster.fillerOf[marcher];
        return filler == NONE ? none(NOTHING) : answer(filler);
    }

    public boolean mark(int show, int judge, int trait, int mark) {
        if (!Scores.isShow(show) || !Scores.isJudge(judge) || !Scores.isTrait(trait)) {
            return refuse(NO_SUCH);
        }
        if (mark < NONE || mark > Scores.HIGHEST) {
            return refuse(BAD_NUMBER);
        }
        scores.give(show, judge, trait, mark);
        return agree();
    }

    public boolean weight(int trait, int weight) {
        if (!Scores.isTrait(trait)) {
            return refuse(NO_SUCH);
        }
        if (weight < 1 || weight > 9) {
            return refuse(BAD_NUMBER);
        }
        scores.weights[trait] = weight;
        return agree();
    }

    public boolean total(int show) {
        if (!Scores.isShow(show)) {
            return refuse(NO_SUCH);
        }
        if (!scores.reckon(show)) {
            return refuse(NOTHING);
        }
        scores.tellFraction();
        return agree();
    }

    public long upper() {
        return scores.toldTop;
    }

    public long lower() {
        return scores.toldBottom;
    }

    public int rank(int show) {
        if (!Scores.isShow(show)) {
            return none(NO_SUCH);
        }
        int place = scores.placeOf(show);
        return place == NONE ? none(NOTHING) : answer(place);
    }

    // ---- what several calls share

    private boolean agree() {
        latestStatus = FINE;
        return true;
    }

    private boolean refuse(int why) {
        latestStatus = why;
        return false;
    }

    private int answer(int value) {
        latestStatus = FINE;
        return value;
    }

    private int none(int why) {
        latestStatus = why;
        return NONE;
    }

    private int placeStatus(int tray, int place) {
        if (!isTray(tray)) {
            return NO_TRAY;
        }
        if (!trays[tray].laid) {
            return MISSING;
        }
        return trays[tray].hasRange(place, 1) ? FINE : NO_PLACE;
    }

    private static boolean isTray(int tray) {
        return tray >= 0 && tray < TRAYS;
    }

    private static boolean isDay(int day) {
        return day >= 0 && day <= LAST_DAY;
    }

    /** A TRAY: MISSING until it is laid. */
    private static final class Tray {
        static final int LONGEST = 40;

        final long[] row = new long[LONGEST];
        boolean laid = false;
        int sort = 0;
        int many = 0;

        void lay(int newSort, int newMany) {
            laid = true;
            sort = newSort;
            many = newMany;
            Arrays.fill(row, 0L);
        }

        void put(int place, long value) {
            row[place] = cut(value);
        }

        /** Whether so many (not below 0) numbers lie from a place on. */
        boolean hasRange(int from, int length) {
            return from >= 0 && from <= many - length;
        }

        private long cut(long value) {
            switch (sort) {
                case 0:
                    return (byte) value;
                case 1:
                    return (short) value;
                case 2:
                    return (int) value;
                default:
                    return value;
            }
        }
    }

    /** Who and what is on the field: MARCHERS where they begin, PROPS, GROUPS, LONG. */
    private static final class Ground {
        static final int EASTS = 60;
        static final int NORTHS = 40;
        static final int SPOTS = EASTS * NORTHS;
        static final int MOST_MARCHERS = 20;
        static final int MOST_PROPS = 30;
        static final int MOST_GROUPS = 8;
        private static final int[] EAST_STEP = {0, 1, 1, 1, 0, -1, -1, -1};
        private static final int[] NORTH_STEP = {1, 1, 0, -1, -1, -1, 0, 1};
        private static final long NAMES_END = 1L << 40;

        final int[] beginEast = new int[MOST_MARCHERS];
        final int[] beginNorth = new int[MOST_MARCHERS];
        final int[] beginFace = new int[MOST_MARCHERS];
        int marchers = 0;
        /** By north, a bit for each east with a PROP. */
        final long[] propBits = new long[NORTHS];
        int props = 0;
        final long[] groupName = new long[MOST_GROUPS];
        final int[] groupSet = new int[MOST_GROUPS];
        int groups = 0;
        int longStep = 2;

        static boolean isSpot(int east, int north) {
            return east >= 0 && east < EASTS && north >= 0 && north < NORTHS;
        }

        static boolean isFace(int face) {
            return face >= 0 && face < 8;
        }

        static int spot(int east, int north) {
            return east * NORTHS + north;
        }

        static int eastStep(int face) {
            return EAST_STEP[face & 7];
        }

        static int northStep(int face) {
            return NORTH_STEP[face & 7];
        }

        /** Whether a number is a WORD of 1 to 8 letters. */
        static boolean isName(long name) {
            if (name <= 0 || name >= NAMES_END) {
                return false;
            }
            long rest = name;
            for (int letters = 0; letters < 8 && rest != 0; letters++) {
                long letter = rest & 31;
                if (letter < 1 || letter > 26) {
                    return false;
                }
                rest >>= 5;
            }
            return true;
        }

        /** Whether a set has bits of MARCHERS alone (the empty one too). */
        boolean isSet(int set) {
            return set >= 0 && (set >>> marchers) == 0;
        }

        boolean hasMarcher(int marcher) {
            return marcher >= 0 && marcher < marchers;
        }

        int addMarcher(int east, int north, int face) {
            beginEast[marchers] = east;
            beginNorth[marchers] = north;
            beginFace[marchers] = face;
            marchers++;
            return marchers - 1;
        }

        boolean hasProp(int east, int north) {
            return (propBits[north] >>> east & 1) != 0;
        }

        void addProp(int east, int north) {
            propBits[north] |= 1L << east;
            props++;
        }

        int groupNamed(long name) {
            for (int g = 0; g < groups; g++) {
                if (groupName[g] == name) {
                    return g;
                }
            }
            return NONE;
        }

        /** Tells a GROUP anew, or (known NONE) one more. */
        int tellGroup(int known, long name, int set) {
            int group = known;
            if (group == NONE) {
                group = groups;
                groups++;
            }
            groupName[group] = name;
            groupSet[group] = set;
            return group;
        }
    }

    /** The ORDERS of a TEXT, in rows by their number along the text, and its LINES. */
    private static final class Text {
        static final int MOST_ORDERS = 60;
        static final int GO = 0;
        static final int BACK = 1;
        static final int MARK_TIME = 2;
        static final int HALT = 3;
        static final int FOLLOW = 4;
        static final int TURN = 5;
        static final int WHEEL = 6;
        static final int OPEN = 7;
        static final int CLOSE = 8;
        static final int SHIFT = 9;
        static final int AGAIN = 10;
        static final int LEFT = 0;
        static final int RIGHT = 1;

        final int[] kind = new int[MOST_ORDERS];
        final int[] place = new int[MOST_ORDERS];
        /** How often, how far, to which SIDE; of shift how far east. */
        final int[] much = new int[MOST_ORDERS];
        /** Of shift how far north. */
        final int[] northward = new int[MOST_ORDERS];
        final int[] counts = new int[MOST_ORDERS];
        /** Of again the number behind the last ORDER within it. */
        final int[] end = new int[MOST_ORDERS];
        final int[] lineEnd = new int[Ground.MOST_GROUPS];
        final int[] lineBody = new int[Ground.MOST_GROUPS];
        int orders = 0;
        int lines = 0;
        boolean told = false;
        private int led = 0;

        void clear() {
            orders = 0;
            lines = 0;
            led = 0;
            told = false;
        }

        void beginLine(int groupSet) {
            lineBody[lines] = groupSet & ~led;
            led |= groupSet;
        }

        void endLine() {
            lineEnd[lines] = orders;
            lines++;
        }

        int lineBegin(int line) {
            return line == 0 ? 0 : lineEnd[line - 1];
        }

        int addOrder(int newKind, int newPlace) {
            int order = orders;
            kind[order] = newKind;
            place[order] = newPlace;
            much[order] = 0;
            northward[order] = 0;
            counts[order] = 0;
            end[order] = order + 1;
            orders++;
            return order;
        }
    }

    /** The tape, and the reading of a TEXT from it, TOKEN by TOKEN, up to its first FAULT. */
    private static final class Reader {
        private static final int TAPE = 500;
        private static final int NO_TOKEN = 1;
        private static final int CANT_STAND = 2;
        private static final int NO_GROUP = 3;
        private static final int CANT_BE = 4;
        private static final int ONE_MORE = 5;
        private static final int TOO_DEEP = 6;

        private static final int BAD = 0;
        private static final int END = 1;
        private static final int WORD = 2;
        private static final int NUMBER = 3;
        private static final int SIGN = 4;

        // What can stand next: of NUMBERS each sort, by what they may be.
        private static final int A_NAME = 0;
        private static final int A_COLON = 1;
        private static final int AN_ORDER = 2;
        private static final int A_BRACE = 3;
        private static final int A_SIDE = 4;
        private static final int COUNTS = 5;
        private static final int EIGHTHS = 6;
        private static final int TIMES = 7;
        private static final int EASTWARD = 8;
        private static final int NORTHWARD = 9;
        private static final int OFTEN = 10;

        private static final int DEEPEST = 3;
        private static final int NO_WORD = -1;
        /** By the kinds of ORDERS, their WORDS as numbers of 5 bits a letter: go, back, mark, .. */
        private static final long[] ORDER_WORDS = {
            239L, 66667L, 427595L, 263572L, 217461239L, 677454L, 24384684L, 508078L, 3554917L,
            20194516L, 1279278L};
        private static final long LEFT_WORD = 398548L;
        private static final long RIGHT_WORD = 19176724L;

        private final int[] tape = new int[TAPE];
        int length = 0;
        int faultKind = 0;
        int faultPlace = NONE;
        private int textEnd = 0;
        private int cursor = 0;
        private int token = END;
        private int tokenPlace = 0;
        private long tokenValue = 0;
        private int wanted = A_NAME;
        /** The ORDER that is being read, and whether a - stood ahead of its NUMBER. */
        private int order = 0;
        private boolean minus = false;
        /** Which again ORDERS are open, and how many. */
        private final int[] openAgains = new int[DEEPEST];
        private int depth = 0;
        /** The GROUPS that have a LINE, as bits. */
        private int lined = 0;

        boolean hasRoomForTwenty() {
            return length <= TAPE - 20;
        }

        void append(int fourBytes) {
            for (int shift = 24; shift >= 0 && length < TAPE; shift -= 8) {
                tape[length] = fourBytes >>> shift & 255;
                length++;
            }
        }

        void readText(int n, Text text, Ground ground) {
            textEnd = Math.min(n, length);
            cursor = 0;
            faultKind = 0;
            faultPlace = NONE;
            wanted = A_NAME;
            minus = false;
            depth = 0;
            lined = 0;
            text.clear();
            for (int guard = 0; guard <= TAPE && faultKind == 0; guard++) {
                nextToken();
                if (token == END && wanted == A_NAME) {
                    break;
                }
                takeToken(text, ground);
            }
            text.told = faultKind == 0;
        }

        private void takeToken(Text text, Ground ground) {
            if (token == BAD) {
                fail(NO_TOKEN);
                return;
            }
            switch (wanted) {
                case A_NAME:
                    takeName(text, ground);
                    break;
                case A_COLON:
                    takeColon();
                    break;
                case AN_ORDER:
                    takeOrder(text);
                    break;
                case A_BRACE:
                    takeBrace();
                    break;
                case A_SIDE:
                    takeSide(text);
                    break;
                default:
                    takeNumber(text);
                    break;
            }
        }

        private void takeName(Text text, Ground ground) {
            if (token != WORD) {
                fail(CANT_STAND);
                return;
            }
            int group = ground.groupNamed(tokenValue);
            if (group == NONE || (lined >>> group & 1) != 0) {
                fail(NO_GROUP);
                return;
            }
            lined |= 1 << group;
            text.beginLine(ground.groupSet[group]);
            wanted = A_COLON;
        }

        private void takeColon() {
            if (!isSign(':')) {
                fail(CANT_STAND);
                return;
            }
            wanted = AN_ORDER;
        }

        /** An ORDER's WORD, or what ends a LINE or an again. */
        private void takeOrder(Text text) {
            if (depth == 0 && isSign(';')) {
                text.endLine();
                wanted = A_NAME;
            } else if (depth > 0 && isSign('}')) {
                depth--;
                text.end[openAgains[depth]] = text.orders;
            } else {
                takeOrderWord(text, token == WORD ? kindOf(tokenValue) : NONE);
            }
        }

        private void takeOrderWord(Text text, int kind) {
            if (kind == NONE) {
                fail(CANT_STAND);
            } else if (text.orders >= Text.MOST_ORDERS) {
                fail(ONE_MORE);
            } else if (kind == Text.AGAIN && depth >= DEEPEST) {
                fail(TOO_DEEP);
            } else {
                order = text.addOrder(kind, tokenPlace);
                wanted = wantedBehindWord(kind);
            }
        }

        private static int wantedBehindWord(int kind) {
            switch (kind) {
                case Text.TURN:
                    return EIGHTHS;
                case Text.WHEEL:
                    return A_SIDE;
                case Text.OPEN:
                case Text.CLOSE:
                    return TIMES;
                case Text.SHIFT:
                    return EASTWARD;
                case Text.AGAIN:
                    return OFTEN;
                default:
                    return COUNTS;
            }
        }

        private void takeBrace() {
            if (!isSign('{') || depth >= DEEPEST) {
                fail(CANT_STAND);
                return;
            }
            openAgains[depth] = order;
            depth++;
            wanted = AN_ORDER;
        }

        private void takeSide(Text text) {
            if (token != WORD || (tokenValue != LEFT_WORD && tokenValue != RIGHT_WORD)) {
                fail(CANT_STAND);
                return;
            }
            text.much[order] = tokenValue == LEFT_WORD ? Text.LEFT : Text.RIGHT;
            wanted = COUNTS;
        }

        private void takeNumber(Text text) {
            boolean whole = wanted == EASTWARD || wanted == NORTHWARD;
            if (whole && !minus && isSign('-')) {
                minus = true;
            } else if (token != NUMBER) {
                fail(CANT_STAND);
            } else if (!isWithin((int) tokenValue)) {
                fail(CANT_BE);
            } else {
                keepNumber(text, minus ? -(int) tokenValue : (int) tokenValue);
                minus = false;
            }
        }

        private boolean isWithin(int number) {
            switch (wanted) {
                case EIGHTHS:
                    return number >= 1 && number <= 7;
                case TIMES:
                    return number >= 2 && number <= 5;
                case EASTWARD:
                case NORTHWARD:
                    return number <= 59;
                case OFTEN:
                    return number >= 2 && number <= 20;
                default:
                    return number >= 1 && number <= 99;
            }
        }

        private void keepNumber(Text text, int number) {
            switch (wanted) {
                case EIGHTHS:
                    text.much[order] = number;
                    wanted = AN_ORDER;
                    break;
                case TIMES:
                    text.much[order] = number;
                    wanted = COUNTS;
                    break;
                case EASTWARD:
                    text.much[order] = number;
                    wanted = NORTHWARD;
                    break;
                case NORTHWARD:
                    text.northward[order] = number;
                    wanted = COUNTS;
                    break;
                case OFTEN:
                    text.much[order] = number;
                    wanted = A_BRACE;
                    break;
                default:
                    text.counts[order] = number;
                    wanted = AN_ORDER;
                    break;
            }
        }

        private boolean isSign(int sign) {
            return token == SIGN && tokenValue == sign;
        }

        private void fail(int kind) {
            faultKind = kind;
            faultPlace = tokenPlace;
        }

        private void nextToken() {
            skipBlanks();
            tokenPlace = cursor;
            tokenValue = 0;
            if (cursor >= textEnd) {
                token = END;
            } else if (isLetter(tape[cursor])) {
                scanWord();
            } else if (isDigit(tape[cursor])) {
                scanNumber();
            } else {
                scanSign();
            }
        }

        private void skipBlanks() {
            for (int i = cursor; i < textEnd && (tape[i] == 10 || tape[i] == 32); i++) {
                cursor = i + 1;
            }
        }

        private void scanWord() {
            int begin = cursor;
            for (int i = begin; i < textEnd && isLetter(tape[i]); i++) {
                tokenValue = tokenValue << 5 | (tape[i] - 'a' + 1);
                cursor = i + 1;
            }
            token = WORD;
            if (cursor - begin > 8) {
                tokenValue = NO_WORD;
            }
        }

        private void scanNumber() {
            int begin = cursor;
            for (int i = begin; i < textEnd && isDigit(tape[i]); i++) {
                tokenValue = (tokenValue * 10 + (tape[i] - '0')) % 1000;
                cursor = i + 1;
            }
            token = cursor - begin > 3 ? BAD : NUMBER;
        }

        private void scanSign() {
            int sign = tape[cursor];
            boolean known = sign == ':' || sign == ';' || sign == '{' || sign == '}' || sign == '-';
            token = known ? SIGN : BAD;
            tokenValue = sign;
            cursor++;
        }

        private static int kindOf(long word) {
            for (int kind = 0; kind < ORDER_WORDS.length; kind++) {
                if (ORDER_WORDS[kind] == word) {
                    return kind;
                }
            }
            return NONE;
        }

        private static boolean isLetter(int sign) {
            return sign >= 'a' && sign <= 'z';
        }

        private static boolean isDigit(int sign) {
            return sign >= '0' && sign <= '9';
        }
    }

    /** A RUN: where each MARCHER is at each COUNT, and what can be seen from that. */
    private static final class Course {
        static final int MOST_COUNTS = 150;
        private static final int WIDTH = Ground.MOST_MARCHERS;

        /** By COUNT and MARCHER: the SPOT times 8 and the FACE. */
        private final int[] state = new int[(MOST_COUNTS + 1) * WIDTH];
        private final int[] figure = new int[WIDTH];
        private final int[] otherFigure = new int[WIDTH];
        boolean made = false;
        int marchers = 0;
        int last = 0;
        int turnsNotWell = 0;

        void begin(Ground ground) {
            made = false;
            last = 0;
            turnsNotWell = 0;
            marchers = ground.marchers;
            for (int m = 0; m < marchers; m++) {
                put(0, m, ground.beginEast[m], ground.beginNorth[m], ground.beginFace[m]);
            }
        }

        /** Puts a MARCHER on a SPOT at a COUNT; false, and nothing, off the ground. */
        boolean put(int count, int marcher, int east, int north, int face) {
            if (!Ground.isSpot(east, north) || count < 0 || count > MOST_COUNTS) {
                return false;
            }
            state[count * WIDTH + marcher] = Ground.spot(east, north) << 3 | face & 7;
            return true;
        }

        void turnFace(int count, int marcher, int eighths) {
            int old = state[count * WIDTH + marcher];
            state[count * WIDTH + marcher] = old & ~7 | old + eighths & 7;
        }

        void copy(int fromCount, int fromMarcher, int count, int marcher) {
            state[count * WIDTH + marcher] = state[fromCount * WIDTH + fromMarcher];
        }

        boolean hasCount(int count) {
            return count >= 0 && count <= last;
        }

        boolean hasMarcher(int marcher) {
            return marcher >= 0 && marcher < marchers;
        }

        boolean hasAll(int set) {
            return (set >>> marchers) == 0;
        }

        private int spotAt(int count, int marcher) {
            return state[count * WIDTH + marcher] >> 3;
        }

        int eastOf(int count, int marcher) {
            return (state[count * WIDTH + marcher] >> 3) / Ground.NORTHS;
        }

        int northOf(int count, int marcher) {
            return (state[count * WIDTH + marcher] >> 3) % Ground.NORTHS;
        }

        int faceOf(int count, int marcher) {
            return state[count * WIDTH + marcher] & 7;
        }

        int clashes() {
            int found = 0;
            for (int count = 0; count <= last; count++) {
                for (int a = 0; a < marchers; a++) {
                    for (int b = a + 1; b < marchers; b++) {
                        found += meet(count, a, b) ? 1 : 0;
                    }
                }
            }
            return found;
        }

        /** The k-th CLASH as one number, or NONE. */
        int findClash(int k) {
            int ahead = k;
            for (int count = 0; count <= last && ahead >= 0; count++) {
                for (int a = 0; a < marchers; a++) {
                    for (int b = a + 1; b < marchers; b++) {
                        if (meet(count, a, b)) {
                            if (ahead == 0) {
                                return (count * WIDTH + a) * WIDTH + b;
                            }
                            ahead--;
                        }
                    }
                }
            }
            return NONE;
        }

        static int countOfClash(int clash) {
            return clash / (WIDTH * WIDTH);
        }

        static int lesserOfClash(int clash) {
            return clash / WIDTH % WIDTH;
        }

        static int greaterOfClash(int clash) {
            return clash % WIDTH;
        }

        private boolean meet(int count, int a, int b) {
            int spotA = spotAt(count, a);
            int spotB = spotAt(count, b);
            if (spotA == spotB) {
                return true;
            }
            return count > 0 && spotA == spotAt(count - 1, b) && spotB == spotAt(count - 1, a);
        }

        int hits(Ground ground) {
            int found = 0;
            for (int count = 0; count <= last; count++) {
                for (int m = 0; m < marchers; m++) {
                    found += ground.hasProp(eastOf(count, m), northOf(count, m)) ? 1 : 0;
                }
            }
            return found;
        }

        int stepsAbove(int square) {
            int found = 0;
            for (int count = 1; count <= last; count++) {
                for (int m = 0; m < marchers; m++) {
                    found += stepSquare(count, m) > square ? 1 : 0;
                }
            }
            return found;
        }

        int greatestStep() {
            int greatest = 0;
            for (int count = 1; count <= last; count++) {
                for (int m = 0; m < marchers; m++) {
                    greatest = Math.max(greatest, stepSquare(count, m));
                }
            }
            return greatest;
        }

        private int stepSquare(int count, int marcher) {
            int east = eastOf(count, marcher) - eastOf(count - 1, marcher);
            int north = northOf(count, marcher) - northOf(count - 1, marcher);
            return east * east + north * north;
        }

        boolean isDressed(int set, int count) {
            int members = 0;
            int ahead = 0;
            int east = 0;
            int north = 0;
            for (int m = 0; m < marchers; m++) {
                if ((set >>> m & 1) != 0) {
                    int eastFromAhead = eastOf(count, m) - eastOf(count, ahead);
                    int northFromAhead = northOf(count, m) - northOf(count, ahead);
                    if (members == 1) {
                        east = eastFromAhead;
                        north = northFromAhead;
                    } else if (members > 1 && (eastFromAhead != east || northFromAhead != north)) {
                        return false;
                    }
                    members++;
                    ahead = m;
                }
            }
            return true;
        }

        /** The least way (0 to 7) by which one figure becomes the other, or NONE. */
        int likeness(int count, int other) {
            layFigure(otherFigure, other, 0);
            for (int way = 0; way < 8; way++) {
                layFigure(figure, count, way);
                if (sameFigure()) {
                    return way;
                }
            }
            return NONE;
        }

        private boolean sameFigure() {
            for (int i = 0; i < marchers; i++) {
                if (figure[i] != otherFigure[i]) {
                    return false;
                }
            }
            return true;
        }

        /** The SPOTS moved by a way, shifted to the edges of east and north 0, in rising order. */
        private void layFigure(int[] row, int count, int way) {
            int leastEast = Ground.EASTS;
            int leastNorth = Ground.EASTS;
            for (int m = 0; m < marchers; m++) {
                leastEast = Math.min(leastEast, movedEast(count, m, way));
                leastNorth = Math.min(leastNorth, movedNorth(count, m, way));
            }
            for (int m = 0; m < marchers; m++) {
                int east = movedEast(count, m, way) - leastEast;
                int north = movedNorth(count, m, way) - leastNorth;
                insert(row, m, east * Ground.EASTS + north);
            }
        }

        private static void insert(int[] row, int many, int value) {
            int place = many;
            for (int i = many; i > 0 && row[i - 1] > value; i--) {
                row[i] = row[i - 1];
                place = i - 1;
            }
            row[place] = value;
        }

        private int movedEast(int count, int marcher, int way) {
            int east = way >= 4 ? -eastOf(count, marcher) : eastOf(count, marcher);
            int north = northOf(count, marcher);
            switch (way & 3) {
                case 0:
                    return east;
                case 1:
                    return north;
                case 2:
                    return -east;
                default:
                    return -north;
            }
        }

        /** North is made what a quarter more makes east. */
        private int movedNorth(int count, int marcher, int way) {
            return movedEast(count, marcher, way & 4 | way + 1 & 3);
        }

        int seenFrom(int count, int east, int below) {
            int found = 0;
            for (int m = 0; m < marchers; m++) {
                found += isSeen(count, m, east, below) ? 1 : 0;
            }
            return found;
        }

        private boolean isSeen(int count, int marcher, int east, int below) {
            int acrossOwn = eastOf(count, marcher) - east;
            int upOwn = northOf(count, marcher) + below;
            for (int m = 0; m < marchers; m++) {
                int across = eastOf(count, m) - east;
                int up = northOf(count, m) + below;
                if (up < upOwn && across * upOwn == acrossOwn * up) {
                    return false;
                }
            }
            return true;
        }
    }

    /** Steps all LINES of a TEXT into a Course, up to the first ERROR. */
    private static final class Drill {
        private static final int MOST_DONE = 500;
        /** Each ORDER done is a stride of the loop over a LINE, and so is each end of an again. */
        private static final int MOST_STRIDES = 20 * MOST_DONE + 2 * MOST_DONE;
        private static final int TOO_MANY_DONE = 1;
        private static final int TOO_MANY_COUNTS = 2;
        private static final int NOT_WHOLE = 3;
        private static final int OFF_GROUND = 4;
        private static final int DEEPEST = 3;

        int errorKind = 0;
        int errorPlace = NONE;
        /** The MARCHERS of the LINE's BODY, and where each of them slides to. */
        private final int[] body = new int[Ground.MOST_MARCHERS];
        private final int[] aimEast = new int[Ground.MOST_MARCHERS];
        private final int[] aimNorth = new int[Ground.MOST_MARCHERS];
        private int size = 0;
        /** By MARCHER the COUNT up to which it is led. */
        private final int[] until = new int[Ground.MOST_MARCHERS];
        /** Which again ORDERS are being done, and how often still. */
        private final int[] again = new int[DEEPEST];
        private final int[] left = new int[DEEPEST];
        private int depth = 0;
        private int now = 0;
        private int done = 0;
        /** How many feet were taken since the beginning, or a halt: odd behind a left one. */
        private int feet = 0;

        void stepThrough(Text text, Ground ground, Course course) {
            errorKind = 0;
            errorPlace = NONE;
            Arrays.fill(until, 0);
            course.begin(ground);
            for (int line = 0; line < text.lines && errorKind == 0; line++) {
                gather(text.lineBody[line], course.marchers);
                doLine(text, course, text.lineBegin(line), text.lineEnd[line]);
                for (int i = 0; i < size; i++) {
                    until[body[i]] = now;
                }
                course.last = Math.max(course.last, now);
            }
            if (errorKind == 0) {
                stayBehind(course);
                course.made = true;
            }
        }

        private void gather(int set, int marchers) {
            size = 0;
            for (int m = 0; m < marchers; m++) {
                if ((set >>> m & 1) != 0) {
                    body[size] = m;
                    size++;
                }
            }
        }

        private void stayBehind(Course course) {
            for (int m = 0; m < course.marchers; m++) {
                for (int count = until[m] + 1; count <= course.last; count++) {
                    course.copy(until[m], m, count, m);
                }
            }
        }

        private void doLine(Text text, Course course, int from, int to) {
            now = 0;
            done = 0;
            feet = 0;
            depth = 0;
            int order = from;
            for (int stride = 0; stride < MOST_STRIDES && errorKind == 0; stride++) {
                if (depth > 0 && order == text.end[again[depth - 1]]) {
                    order = behindRound(order);
                } else if (order < to) {
                    countOrder(text.counts[order]);
                    if (errorKind == 0) {
                        doOrder(text, course, order);
                    }
                    if (errorKind != 0) {
                        errorPlace = text.place[order];
                    }
                    order++;
                } else {
                    break;
                }
            }
        }

        /** Behind one round of the innermost again: back to its first ORDER, or on. */
        private int behindRound(int order) {
            left[depth - 1]--;
            if (left[depth - 1] > 0) {
                return again[depth - 1] + 1;
            }
            depth--;
            return order;
        }

        private void countOrder(int counts) {
            done++;
            if (done > MOST_DONE) {
                fail(TOO_MANY_DONE);
            } else if (now + counts > Course.MOST_COUNTS) {
                fail(TOO_MANY_COUNTS);
            }
        }

        private void doOrder(Text text, Course course, int order) {
            int counts = text.counts[order];
            int much = text.much[order];
            switch (text.kind[order]) {
                case Text.GO:
                    stepAhead(course, counts, 1);
                    break;
                case Text.BACK:
                    stepAhead(course, counts, -1);
                    break;
                case Text.FOLLOW:
                    followPivot(course, counts);
                    break;
                case Text.TURN:
                    turnBody(course, much);
                    judgeTurn(course, much);
                    break;
                case Text.WHEEL:
                    aimWheel(course, much == Text.LEFT ? 1 : -1);
                    slide(course, counts);
                    turnBody(course, much == Text.LEFT ? -2 : 2);
                    break;
                case Text.OPEN:
                    aimOpen(course, much);
                    slide(course, counts);
                    break;
                case Text.CLOSE:
                    aimClose(course, much);
                    slide(course, counts);
                    break;
                case Text.SHIFT:
                    aimShift(course, much, text.northward[order]);
                    slide(course, counts);
                    break;
                case Text.AGAIN:
                    beginAgain(order, much);
                    break;
                default:
                    stepAhead(course, counts, 0);
                    break;
            }
            feet = text.kind[order] == Text.HALT ? 0 : feet + counts;
        }

        private void beginAgain(int order, int often) {
            if (depth < DEEPEST) {
                again[depth] = order;
                left[depth] = often;
                depth++;
            }
        }

        private void fail(int kind) {
            if (errorKind == 0) {
                errorKind = kind;
            }
        }

        /** Each count a step the way of the FACE times 1, -1 or (on the spot) 0. */
        private void stepAhead(Course course, int counts, int way) {
            for (int j = 0; j < counts && errorKind == 0; j++) {
                now++;
                for (int i = 0; i < size; i++) {
                    stepOne(course, body[i], way);
                }
            }
        }

        private void stepOne(Course course, int marcher, int way) {
            int face = course.faceOf(now - 1, marcher);
            int east = course.eastOf(now - 1, marcher) + way * Ground.eastStep(face);
            int north = course.northOf(now - 1, marcher) + way * Ground.northStep(face);
            if (!course.put(now, marcher, east, north, face)) {
                fail(OFF_GROUND);
            }
        }

        private void followPivot(Course course, int counts) {
            for (int j = 0; j < counts && errorKind == 0; j++) {
                now++;
                if (size > 0) {
                    stepOne(course, body[0], 1);
                }
                for (int i = 1; i < size; i++) {
                    course.copy(now - 1, body[i - 1], now, body[i]);
                }
            }
        }

        private void turnBody(Course course, int eighths) {
            for (int i = 0; i < size; i++) {
                course.turnFace(now, body[i], eighths);
            }
        }

        private void judgeTurn(Course course, int eighths) {
            boolean behindLeft = (feet & 1) == 1;
            boolean well = feet == 0 || eighths == 4 || behindLeft == (eighths < 4);
            course.turnsNotWell += well ? 0 : 1;
        }

        /** A quarter turn, times 1 against the clock, times -1 with it. */
        private void aimWheel(Course course, int sign) {
            for (int i = 0; i < size; i++) {
                aimEast[i] = course.eastOf(now, body[0]) - sign * northFromPivot(course, i);
                aimNorth[i] = course.northOf(now, body[0]) + sign * eastFromPivot(course, i);
            }
        }

        private void aimOpen(Course course, int times) {
            for (int i = 0; i < size; i++) {
                aimEast[i] = course.eastOf(now, body[0]) + times * eastFromPivot(course, i);
                aimNorth[i] = course.northOf(now, body[0]) + times * northFromPivot(course, i);
            }
        }

        private void aimClose(Course course, int times) {
            if (times < 1) {
                return;
            }
            for (int i = 0; i < size; i++) {
                int east = eastFromPivot(course, i);
                int north = northFromPivot(course, i);
                if (east % times != 0 || north % times != 0) {
                    fail(NOT_WHOLE);
                }
                aimEast[i] = course.eastOf(now, body[0]) + east / times;
                aimNorth[i] = course.northOf(now, body[0]) + north / times;
            }
        }

        private void aimShift(Course course, int east, int north) {
            for (int i = 0; i < size; i++) {
                aimEast[i] = course.eastOf(now, body[i]) + east;
                aimNorth[i] = course.northOf(now, body[i]) + north;
            }
        }

        private int eastFromPivot(Course course, int i) {
            return course.eastOf(now, body[i]) - course.eastOf(now, body[0]);
        }

        private int northFromPivot(Course course, int i) {
            return course.northOf(now, body[i]) - course.northOf(now, body[0]);
        }

        /** The whole BODY goes straight to its aims. */
        private void slide(Course course, int counts) {
            int start = now;
            for (int j = 1; j <= counts && errorKind == 0; j++) {
                now++;
                for (int i = 0; i < size; i++) {
                    int m = body[i];
                    int east = between(course.eastOf(start, m), aimEast[i], j, counts);
                    int north = between(course.northOf(start, m), aimNorth[i], j, counts);
                    if (!course.put(now, m, east, north, course.faceOf(start, m))) {
                        fail(OFF_GROUND);
                    }
                }
            }
        }

        /** Behind j of n counts on the way: the nearest whole number, a half up. */
        static int between(int from, int to, int j, int n) {
            if (n < 1) {
                return from;
            }
            return from + Math.floorDiv(2 * j * (to - from) + n, 2 * n);
        }
    }

    /** GOES: who goes to which SPOT so that none meet. */
    private static final class Placing {
        static final int MOST = 6;
        static final int MOST_COUNTS = 40;
        private static final int PAIRS = MOST * MOST;

        /** What goes() found latest; placed is 0 ahead of any. */
        int placed = 0;
        int greatest = 0;
        int sum = 0;
        final int[] spotFor = new int[MOST];

        private final int[] spotEast = new int[MOST];
        private final int[] spotNorth = new int[MOST];
        private final int[] choice = new int[MOST];
        private final int[] best = new int[MOST];
        /** By MARCHER and SPOT: the square of the way, and where one is at each count of it. */
        private final int[] square = new int[PAIRS];
        private final int[] onWay = new int[PAIRS * (MOST_COUNTS + 1)];
        private final boolean[] waysMeet = new boolean[PAIRS * PAIRS];
        private int many = 0;
        private int bestGreatest = NONE;
        private int bestSum = NONE;

        /** Takes the SPOTS from a TRAY that has them; false if one can't be, or is there twice. */
        boolean takeSpots(Tray tray, int wanted) {
            for (int s = 0; s < wanted; s++) {
                long east = tray.row[2 * s];
                long north = tray.row[2 * s + 1];
                if (east < 0 || east >= Ground.EASTS || north < 0 || north >= Ground.NORTHS) {
                    return false;
                }
                spotEast[s] = (int) east;
                spotNorth[s] = (int) north;
                for (int t = 0; t < s; t++) {
                    if (spotEast[t] == spotEast[s] && spotNorth[t] == spotNorth[s]) {
                        return false;
                    }
                }
            }
            return true;
        }

        boolean search(Ground ground, int wanted, int counts) {
            many = wanted;
            layWays(ground, counts);
            layMeetings(counts);
            bestGreatest = NONE;
            bestSum = NONE;
            choose(0, 0, 0, 0);
            if (bestGreatest == NONE) {
                return false;
            }
            placed = many;
            greatest = bestGreatest;
            sum = bestSum;
            System.arraycopy(best, 0, spotFor, 0, many);
            return true;
        }

        private void layWays(Ground ground, int counts) {
            for (int m = 0; m < many; m++) {
                int beginEast = ground.beginEast[m];
                int beginNorth = ground.beginNorth[m];
                for (int s = 0; s < many; s++) {
                    int way = m * MOST + s;
                    int east = spotEast[s] - beginEast;
                    int north = spotNorth[s] - beginNorth;
                    square[way] = east * east + north * north;
                    for (int j = 0; j <= counts; j++) {
                        onWay[way * (MOST_COUNTS + 1) + j] = Ground.spot(
                                Drill.between(beginEast, spotEast[s], j, counts),
                                Drill.between(beginNorth, spotNorth[s], j, counts));
                    }
                }
            }
        }

        private void layMeetings(int counts) {
            for (int a = 0; a < many * MOST; a++) {
                for (int b = 0; b < a; b++) {
                    boolean both = a % MOST < many && b % MOST < many && a % MOST != b % MOST;
                    waysMeet[a * PAIRS + b] = both && a / MOST != b / MOST && meet(a, b, counts);
                }
            }
        }

        private boolean meet(int a, int b, int counts) {
            int atA = a * (MOST_COUNTS + 1);
            int atB = b * (MOST_COUNTS + 1);
            for (int j = 0; j <= counts; j++) {
                if (onWay[atA + j] == onWay[atB + j]) {
                    return true;
                }
                if (j > 0 && onWay[atA + j] == onWay[atB + j - 1]
                        && onWay[atB + j] == onWay[atA + j - 1]) {
                    return true;
                }
            }
            return false;
        }

        /** MARCHER by MARCHER the lesser SPOT first, so that of equals the first one found stays. */
        private void choose(int marcher, int taken, int most, int together) {
            if (marcher >= many) {
                keepIfBetter(most, together);
                return;
            }
            for (int s = 0; s < many; s++) {
                if ((taken >>> s & 1) == 0 && isFree(marcher, s)) {
                    int way = square[marcher * MOST + s];
                    choice[marcher] = s;
                    choose(marcher + 1, taken | 1 << s, Math.max(most, way), together + way);
                }
            }
        }

        private boolean isFree(int marcher, int spot) {
            int own = (marcher * MOST + spot) * PAIRS;
            for (int m = 0; m < marcher; m++) {
                if (waysMeet[own + m * MOST + choice[m]]) {
                    return false;
                }
            }
            return true;
        }

        private void keepIfBetter(int most, int together) {
            boolean better = bestGreatest == NONE || most < bestGreatest
                    || (most == bestGreatest && together < bestSum);
            if (better) {
                bestGreatest = most;
                bestSum = together;
                System.arraycopy(choice, 0, best, 0, many);
            }
        }
    }

    /** PATHS: the fewest counts from a MARCHER's beginning to a SPOT. */
    private static final class Ways {
        private static final int STATES = Ground.SPOTS * 8;
        private static final int AHEAD = 0;
        private static final int TO_RIGHT = 1;
        private static final int TO_LEFT = 2;
        private static final int BEGINNING = 3;

        /** What path() found latest; the length is NONE ahead of any. */
        int length = NONE;
        private byte[] moves = null;

        /** By north, a bit for each east that one must not step on. */
        private final long[] barred = new long[Ground.NORTHS];
        /** By SPOT and FACE: 0 where one has not come to, else 1 and the move by which one came. */
        private byte[] came = null;
        private int[] queue = null;
        private int waiting = 0;

        boolean search(Ground ground, int marcher, int goalSpot, int goalFace) {
            makeRows();
            bar(ground, marcher);
            Arrays.fill(came, (byte) 0);
            waiting = 0;
            int begin = Ground.spot(ground.beginEast[marcher], ground.beginNorth[marcher]) << 3
                    | ground.beginFace[marcher];
            visit(begin, BEGINNING);
            for (int head = 0; head < waiting && head < STATES; head++) {
                int state = queue[head];
                if (state >> 3 == goalSpot && (goalFace == NONE || (state & 7) == goalFace)) {
                    keepMoves(state);
                    return true;
                }
                // Moves tried in their order make the first one that comes the first of several.
                visitAhead(state);
                visit(turned(state, 1), TO_RIGHT);
                visit(turned(state, -1), TO_LEFT);
            }
            return false;
        }

        /** The k-th move of the PATH found latest, or NONE. */
        int moveAt(int k) {
            return moves == null || k < 0 || k >= length ? NONE : moves[k];
        }

        /** These rows are the greatest of all: an object that never asks for a PATH has none. */
        private void makeRows() {
            if (came == null || queue == null || moves == null) {
                came = new byte[STATES];
                queue = new int[STATES];
                moves = new byte[STATES];
            }
        }

        private void bar(Ground ground, int marcher) {
            System.arraycopy(ground.propBits, 0, barred, 0, Ground.NORTHS);
            for (int m = 0; m < ground.marchers; m++) {
                barred[ground.beginNorth[m]] |= 1L << ground.beginEast[m];
            }
            barred[ground.beginNorth[marcher]] &= ~(1L << ground.beginEast[marcher]);
        }

        private void visitAhead(int state) {
            int east = (state >> 3) / Ground.NORTHS + Ground.eastStep(state);
            int north = (state >> 3) % Ground.NORTHS + Ground.northStep(state);
            if (Ground.isSpot(east, north) && (barred[north] >>> east & 1) == 0) {
                visit(Ground.spot(east, north) << 3 | state & 7, AHEAD);
            }
        }

        private static int turned(int state, int eighths) {
            return state & ~7 | state + eighths & 7;
        }

        private void visit(int state, int move) {
            if (came[state] == 0 && waiting < STATES) {
                came[state] = (byte) (move + 1);
                queue[waiting] = state;
                waiting++;
            }
        }

        private void keepMoves(int goal) {
            length = countMoves(goal);
            int state = goal;
            for (int k = length - 1; k >= 0; k--) {
                moves[k] = (byte) (came[state] - 1);
                state = stateAhead(state);
            }
        }

        private int countMoves(int goal) {
            int state = goal;
            for (int moved = 0; moved < STATES; moved++) {
                if (came[state] == BEGINNING + 1) {
                    return moved;
                }
                state = stateAhead(state);
            }
            return 0;
        }

        /** Where one was ahead of the move by which one came. */
        private int stateAhead(int state) {
            switch (came[state] - 1) {
                case AHEAD:
                    return state - (Ground.spot(Ground.eastStep(state), Ground.northStep(state)) << 3);
                case TO_RIGHT:
                    return turned(state, -1);
                default:
                    return turned(state, 1);
            }
        }
    }

    /** PERSONS, when they are AWAY, and who fills which part. */
    private static final class Roster {
        static final int MOST_PERSONS = 16;
        static final int MOST_AWAYS = 60;

        int persons = 0;
        int aways = 0;
        int latestKnown = 0;
        /** By MARCHER the PERSON who fills its part, as fill() found it latest. */
        final int[] fillerOf = new int[Ground.MOST_MARCHERS];

        private final int[] knows = new int[MOST_PERSONS];
        private final int[] awayPerson = new int[MOST_AWAYS];
        private final int[] awayFrom = new int[MOST_AWAYS];
        private final int[] awayTo = new int[MOST_AWAYS];
        private final int[] awayKnown = new int[MOST_AWAYS];
        /** By MARCHER the PERSONS who can fill its part, as bits. */
        private final int[] can = new int[Ground.MOST_MARCHERS];
        private final int[] partOf = new int[MOST_PERSONS];
        private final int[] queue = new int[Ground.MOST_MARCHERS];
        private final int[] askedBy = new int[MOST_PERSONS];
        private int marchers = 0;

        int addPerson(int set) {
            knows[persons] = set;
            persons++;
            return persons - 1;
        }

        void addAway(int person, int from, int to, int known) {
            awayPerson[aways] = person;
            awayFrom[aways] = from;
            awayTo[aways] = to;
            awayKnown[aways] = known;
            aways++;
            latestKnown = known;
        }

        /** Fills as many parts as can be, of several ways the first: how many. */
        int fill(int parts, int day, int known) {
            marchers = parts;
            layCan(gone(day, known));
            Arrays.fill(fillerOf, NONE);
            Arrays.fill(partOf, NONE);
            int count = 0;
            for (int i = 0; i < marchers && fillOneMore(0, 0); i++) {
                count++;
            }
            int settled = 0;
            for (int m = 0; m < marchers; m++) {
                settled = settle(m, settled);
            }
            return count;
        }

        private int gone(int day, int known) {
            int set = 0;
            for (int i = 0; i < aways; i++) {
                if (awayKnown[i] <= known && awayFrom[i] <= day && day <= awayTo[i]) {
                    set |= 1 << awayPerson[i];
                }
            }
            return set;
        }

        private void layCan(int gone) {
            for (int m = 0; m < marchers; m++) {
                can[m] = 0;
                for (int p = 0; p < persons; p++) {
                    if ((gone >>> p & 1) == 0 && (knows[p] >>> m & 1) != 0) {
                        can[m] |= 1 << p;
                    }
                }
            }
        }

        /**
         * Gives a MARCHER the least PERSON with whom as many parts are filled as before, where
         * settled are the PERSONS of the MARCHERS ahead; answers those with this one's too.
         */
        private int settle(int marcher, int settled) {
            int free = can[marcher] & ~settled;
            for (int p = 0; p < persons; p++) {
                if ((free >>> p & 1) != 0 && tryPerson(marcher, p, settled)) {
                    return settled | 1 << p;
                }
            }
            return settled;
        }

        private boolean tryPerson(int marcher, int person, int settled) {
            int held = fillerOf[marcher];
            int loser = partOf[person];
            if (loser == marcher) {
                return true;
            }
            if (loser != NONE) {
                fillerOf[loser] = NONE;
            }
            if (held != NONE) {
                partOf[held] = NONE;
            }
            pair(marcher, person);
            if (loser == NONE || held == NONE || fillOneMore(marcher + 1, settled | 1 << person)) {
                return true;
            }
            pair(marcher, held);
            pair(loser, person);
            return false;
        }

        private void pair(int marcher, int person) {
            fillerOf[marcher] = person;
            partOf[person] = marcher;
        }

        /**
         * Fills one part more, of the MARCHERS from one on and without the barred PERSONS, by a
         * chain along which each one hands its PERSON on; false, and nothing changed, if none is.
         */
        private boolean fillOneMore(int first, int barred) {
            int waiting = 0;
            for (int m = first; m < marchers; m++) {
                if (fillerOf[m] == NONE) {
                    queue[waiting] = m;
                    waiting++;
                }
            }
            int asked = barred;
            for (int head = 0; head < waiting; head++) {
                int marcher = queue[head];
                int askable = can[marcher] & ~asked;
                asked |= askable;
                for (int p = 0; p < persons; p++) {
                    if ((askable >>> p & 1) != 0) {
                        askedBy[p] = marcher;
                        if (partOf[p] == NONE) {
                            handOn(p);
                            return true;
                        }
                        if (waiting < queue.length) {
                            queue[waiting] = partOf[p];
                            waiting++;
                        }
                    }
                }
            }
            return false;
        }

        private void handOn(int freePerson) {
            int person = freePerson;
            for (int i = 0; i < Ground.MOST_MARCHERS && person != NONE; i++) {
                int marcher = askedBy[person];
                int held = fillerOf[marcher];
                pair(marcher, person);
                person = held;
            }
        }
    }

    /** MARKS, WEIGHTS, and the FRACTIONS that come of them. */
    private static final class Scores {
        static final int HIGHEST = 100;
        private static final int SHOWS = 6;
        private static final int JUDGES = 9;
        private static final int TRAITS = 3;

        final int[] weights = new int[TRAITS];
        long toldTop = 0;
        long toldBottom = 1;
        private final int[] marks = new int[SHOWS * JUDGES * TRAITS];
        /** What reckon() found latest. */
        private long top = 0;
        private long bottom = 1;

        Scores() {
            Arrays.fill(weights, 1);
            Arrays.fill(marks, NONE);
        }

        static boolean isShow(int show) {
            return show >= 0 && show < SHOWS;
        }

        static boolean isJudge(int judge) {
            return judge >= 0 && judge < JUDGES;
        }

        static boolean isTrait(int trait) {
            return trait >= 0 && trait < TRAITS;
        }

        void give(int show, int judge, int trait, int newMark) {
            marks[(show * TRAITS + trait) * JUDGES + judge] = newMark;
        }

        /** Reckons the TOTAL of a SHOW as top by bottom; false if a TRAIT has no MARK. */
        boolean reckon(int show) {
            top = 0;
            bottom = 1;
            for (int trait = 0; trait < TRAITS; trait++) {
                if (!addTrait(show, trait)) {
                    return false;
                }
            }
            return true;
        }

        private boolean addTrait(int show, int trait) {
            int many = 0;
            int sum = 0;
            int least = HIGHEST;
            int most = 0;
            for (int judge = 0; judge < JUDGES; judge++) {
                int given = marks[(show * TRAITS + trait) * JUDGES + judge];
                if (given != NONE) {
                    many++;
                    sum += given;
                    least = Math.min(least, given);
                    most = Math.max(most, given);
                }
            }
            if (many >= 3) {
                many -= 2;
                sum -= least + most;
            }
            top = top * many + bottom * sum * weights[trait];
            bottom *= many;
            return many > 0;
        }

        void tellFraction() {
            long divisor = commonDivisor(top, bottom);
            if (divisor > 0) {
                toldTop = top / divisor;
                toldBottom = bottom / divisor;
            }
        }

        private static long commonDivisor(long a, long b) {
            long greater = a;
            long lesser = b;
            for (int i = 0; i < 1000 && lesser != 0; i++) {
                long rest = greater % lesser;
                greater = lesser;
                lesser = rest;
            }
            return greater;
        }

        /** The RANK of a SHOW, or NONE without a TOTAL. */
        int placeOf(int show) {
            if (!reckon(show)) {
                return NONE;
            }
            long ownTop = top;
            long ownBottom = bottom;
            int place = 1;
            for (int other = 0; other < SHOWS; other++) {
                if (reckon(other) && top * ownBottom > ownTop * bottom) {
                    place++;
                }
            }
            return place;
        }
    }
}
