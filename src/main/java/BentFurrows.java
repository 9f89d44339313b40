/**
 * Bundles of ridges bent like an S, told in texts with what lies over them, and what follows:
 * years, rings, stacks, fields, yards ploughed, terriers, turns of holders, pictures of evenings.
 *
 * Rows are read and written through at and put alone, so that no index is ever used untested.
 */
public final class BentFurrows {
    public static final int NONE = -1, UNKNOWN = -2, OUTSIDE = -3, NOT = -4, FULL = -5;

    private static final int BUNDLES = 8;
    private static final int THINGS = 14;
    private static final int ALL_BUNDLES = 255;
    private static final int LAST_YEAR = 2000;

    /** What of a BUNDLE, as bundle() and the text number it. */
    private static final int WAY = 2, RIDGES = 3, WIDE = 4, LONG = 5, SWING = 6, SIDE = 7, HIGH = 8;
    private static final int YARDS = 9;

    /** The ways to lie, and of the sun; EAST is the x axis too, NORTH the y axis. */
    private static final int EAST = 0, NORTH = 1;

    private final Text text;
    private final Reader reader;
    private final Ground ground;
    private final Years years;
    private final Joints joints;
    private final Ploughland ploughland;
    private final Terriers terriers;
    private final Turns turns;
    private final Pictures pictures;

    public BentFurrows() {
        text = new Text();
        reader = new Reader(text);
        ground = new Ground();
        years = new Years(ground);
        joints = new Joints(ground, years);
        ploughland = new Ploughland(ground, years);
        terriers = new Terriers(ground);
        turns = new Turns();
        pictures = new Pictures(ground);
    }

    // ---- what is told

    public int write(long bytes, int n) {
        if (!within(n, 1, 8)) {
            return OUTSIDE;
        }
        if (!text.hasRoomFor(n)) {
            return FULL;
        }
        text.add(bytes, n);
        return text.length;
    }

    public int erase() {
        int had = text.length;
        text.length = 0;
        return had;
    }

    public int fault() {
        return reader.firstFault();
    }

    public int parish() {
        if (reader.firstFault() != NONE) {
            return NOT;
        }
        for (int line = 0; line < reader.lines; line++) {
            ground.doLine(reader, line);
        }
        text.length = 0;
        return reader.lines;
    }

    public int bundle(int bundle, int what) {
        if (!ground.isBundle(bundle)) {
            return UNKNOWN;
        }
        if (what == YARDS) {
            return ground.yards(bundle);
        }
        return within(what, 0, HIGH) ? ground.part(bundle, what) : OUTSIDE;
    }

    public int covers(int thing, int what) {
        if (!ground.isThing(thing)) {
            return UNKNOWN;
        }
        return within(what, 0, 3) ? ground.boxPart(thing, what) : OUTSIDE;
    }

    // ---- years

    public int teams(int bundle) {
        return ground.isBundle(bundle) ? ground.fittingTeams(bundle) : UNKNOWN;
    }

    public int span(int thing, int what) {
        if (!ground.isThing(thing)) {
            return UNKNOWN;
        }
        if (!within(what, 0, 1)) {
            return OUTSIDE;
        }
        if (!years.settle()) {
            return NONE;
        }
        return what == 0 ? years.earliestOf(thing) : years.latestOf(thing);
    }

    public int ring() {
        return years.ringed();
    }

    public int stack(int i) {
        return i < NONE ? OUTSIDE : years.stackAt(i);
    }

    public int over(int thing, int other) {
        if (!ground.isThing(thing) || !ground.isThing(other)) {
            return UNKNOWN;
        }
        return oneIf(years.liesOverByOthers(thing, other));
    }

    // ---- what was one

    public int joined(int a, int b) {
        return isPair(a, b) ? oneIf(joints.areJoined(a, b)) : UNKNOWN;
    }

    public int later(int a, int b) {
        if (!isPair(a, b)) {
            return UNKNOWN;
        }
        return joints.areJoined(a, b) ? joints.marksBetween(a, b) : NOT;
    }

    public int odds(int a, int b, int part) {
        if (!isPair(a, b)) {
            return UNKNOWN;
        }
        if (!within(part, 0, 1)) {
            return OUTSIDE;
        }
        return joints.areJoined(a, b) ? joints.oddsPart(a, part) : NOT;
    }

    public int field(int bundle, int what) {
        if (!ground.isBundle(bundle)) {
            return UNKNOWN;
        }
        if (!within(what, 0, 2)) {
            return OUTSIDE;
        }
        int members = joints.membersWith(bundle);
        if (what == 0) {
            return members;
        }
        return what == 1 ? joints.yardsOf(members) : joints.firstYearOf(members);
    }

    public int fields() {
        return joints.howManyFields();
    }

    public int ploughed(int year, int what) {
        if (!within(year, 0, LAST_YEAR) || !within(what, 0, 1)) {
            return OUTSIDE;
        }
        return years.settle() ? ploughland.yardsIn(year, what) : NONE;
    }

    public int peak(int what) {
        if (!within(what, 0, 1)) {
            return OUTSIDE;
        }
        if (!years.settle()) {
            return NONE;
        }
        int year = ploughland.yearOfMost();
        return what == 0 ? year : ploughland.yardsIn(year, Ploughland.AT_MOST);
    }

    // ---- terriers, turns

    public int terrier(int terrier, int n, int set) {
        if (!within(terrier, 0, Terriers.MOST - 1)) {
            return UNKNOWN;
        }
        if (!within(n, 0, 30) || !within(set, 0, 31)) {
            return OUTSIDE;
        }
        terriers.tell(terrier, n, set);
        return 1;
    }

    public int given(int what) {
        if (!within(what, Terriers.DIFFERENCES, Terriers.MOST - 1)) {
            return OUTSIDE;
        }
        terriers.giveAll();
        return terriers.answer(what);
    }

    public int holder(int strip, int holder) {
        if (!within(strip, 0, Turns.STRIPS - 1) || !within(holder, NONE, 9)) {
            return OUTSIDE;
        }
        return turns.tell(strip, holder);
    }

    public int round() {
        return turns.leastRound();
    }

    public int whose(int strip) {
        return within(strip, 0, 99) ? turns.holderByTurns(strip) : OUTSIDE;
    }

    // ---- pictures

    public int picture(int sun, int high, int seen) {
        if (!within(sun, EAST, NORTH) || !within(high, 0, 60) || !within(seen, 0, ALL_BUNDLES)) {
            return OUTSIDE;
        }
        return pictures.add(sun, high, seen) ? pictures.taken : FULL;
    }

    public int shows(int picture, int bundle) {
        if (!within(picture, 0, pictures.taken - 1) || !ground.isBundle(bundle)) {
            return UNKNOWN;
        }
        return oneIf(pictures.shouldShow(picture, bundle));
    }

    public int seen(int what) {
        switch (what) {
            case 0:
                return pictures.flat();
            case 1:
                return pictures.standing();
            case 2:
                return pictures.bestSun();
            default:
                return OUTSIDE;
        }
    }

    public int count(int what) {
        switch (what) {
            case 0:
                return Integer.bitCount(ground.toldBundles());
            case 1:
                return Integer.bitCount(ground.told & ~ALL_BUNDLES);
            case 2:
                return ground.pairs;
            case 3:
                return Integer.bitCount(ground.teamsTold);
            case 4:
                return text.length;
            case 5:
                return terriers.howManyTold();
            case 6:
                return pictures.taken;
            case 7:
                return ground.slack;
            case 8:
                return ground.gap;
            default:
                return OUTSIDE;
        }
    }

    private boolean isPair(int a, int b) {
        return a != b && ground.isBundle(a) && ground.isBundle(b);
    }

    // ---- small helps for all classes

    private static int at(int[] row, int place) {
        return place >= 0 && place < row.length ? row[place] : 0;
    }

    private static void put(int[] row, int place, int value) {
        if (place >= 0 && place < row.length) {
            row[place] = value;
        }
    }

    private static boolean within(int number, int least, int most) {
        return number >= least && number <= most;
    }

    private static boolean has(int set, int member) {
        return (set >> member & 1) == 1;
    }

    private static int oneIf(boolean so) {
        return so ? 1 : 0;
    }

    /** What is over of a number when it is shared out by a divisor. */
    private static int remainder(int number, int divisor) {
        return divisor < 1 ? 0 : number % divisor;
    }

    /** THE TEXT: a row of bytes. */
    private static final class Text {
        private static final int MOST = 200;

        private final int[] bytes = new int[MOST];
        private int length;

        boolean hasRoomFor(int n) {
            return length + n <= MOST;
        }

        void add(long packed, int n) {
            for (int i = 0; i < n; i++) {
                put(bytes, length + i, (int) (packed >> 8 * i & 255));
            }
            length += n;
        }
    }

    /** Reads THE TEXT, token by token, into rows of numbers: the kind of each line, then its own. */
    private static final class Reader {
        private static final int MOST_LINES = 8;
        private static final int ROW = 11;
        private static final int MOST_DIGITS = 4;

        private static final int BUNDLE = 0, MARK = 1, YEAR = 2, OVER = 3, TEAM = 4, SLACK = 5, GAP = 6;
        private static final int KINDS = GAP + 1;

        /** What may stand in a slot: a number (also: not below, unlike the one ahead), a word. */
        private static final int NUMBER = 0, NOT_BELOW = 1, UNLIKE = 2, COMPASS = 3, HAND = 4;
        private static final int SLOT = 3;
        private static final int[] SLOTS = {
            // bundle B X Y D N W L S E H
            NUMBER, 0, 7, NUMBER, 0, 999, NUMBER, 0, 999, COMPASS, 0, 1, NUMBER, 1, 30,
            NUMBER, 1, 20, NUMBER, 1, 500, NUMBER, 0, 40, HAND, 0, 1, NUMBER, 0, 60,
            // mark M X Y A B
            NUMBER, 8, 13, NUMBER, 0, 999, NUMBER, 0, 999, NUMBER, 1, 999, NUMBER, 1, 999,
            // year T Y Z
            NUMBER, 0, 13, NUMBER, 0, LAST_YEAR, NOT_BELOW, 0, LAST_YEAR,
            // over T U
            NUMBER, 0, 13, UNLIKE, 0, 13,
            // team K A B Y Z
            NUMBER, 1, 12, NUMBER, 0, 40, NOT_BELOW, 0, 40, NUMBER, 0, LAST_YEAR, NOT_BELOW, 0, LAST_YEAR,
            // slack N, gap N
            NUMBER, 0, 99, NUMBER, 0, 99,
        };
        /** The first slot of each kind of line, and of what would come behind the last kind. */
        private static final int[] FIRST_SLOT = {0, 10, 15, 18, 20, 25, 26, 27};

        /** Sorts of bytes. */
        private static final int LETTER = 0, DIGIT = 1, OTHER = 2;

        private final Text text;
        private final int[] rows = new int[MOST_LINES * ROW];
        private int lines;
        /** Where the token begins that was taken last, and where it ends. */
        private int begin;
        private int end;

        Reader(Text text) {
            this.text = text;
        }

        /** Fills the rows; answers where the first FAULT is, or NONE. */
        int firstFault() {
            lines = 0;
            end = 0;
            for (int line = 0; line < MOST_LINES; line++) {
                if (!readLine(line)) {
                    return begin;
                }
                lines = line + 1;
                takeToken();
                if (begin == text.length) {
                    return NONE;
                }
                if (!tokenIs(";")) {
                    return begin;
                }
            }
            // the ; behind the last line that may stand
            return begin;
        }

        int kindOf(int line) {
            return at(rows, line * ROW);
        }

        /** The number in a slot of a line, from slot 0 on. */
        int number(int line, int slot) {
            return at(rows, line * ROW + 1 + slot);
        }

        private boolean readLine(int line) {
            takeToken();
            int kind = kindTold();
            if (kind == NONE) {
                return false;
            }
            put(rows, line * ROW, kind);
            int first = at(FIRST_SLOT, kind);
            int slots = at(FIRST_SLOT, kind + 1) - first;
            int value = NONE;
            for (int slot = 0; slot < slots; slot++) {
                takeToken();
                value = valueIn(first + slot, value);
                if (value == NONE) {
                    return false;
                }
                put(rows, line * ROW + 1 + slot, value);
            }
            return true;
        }

        private void takeToken() {
            begin = end;
            while (begin < text.length && at(text.bytes, begin) == ' ') {
                begin++;
            }
            end = begin;
            if (begin < text.length) {
                int sort = sortOf(at(text.bytes, begin));
                end = begin + 1;
                while (sort != OTHER && end < text.length && sortOf(at(text.bytes, end)) == sort) {
                    end++;
                }
            }
        }

        private static int sortOf(int sign) {
            if (within(sign, 'a', 'z')) {
                return LETTER;
            }
            return within(sign, '0', '9') ? DIGIT : OTHER;
        }

        private int kindTold() {
            for (int kind = 0; kind < KINDS; kind++) {
                if (tokenIs(nameOf(kind))) {
                    return kind;
                }
            }
            return NONE;
        }

        private static String nameOf(int kind) {
            switch (kind) {
                case BUNDLE:
                    return "bundle";
                case MARK:
                    return "mark";
                case YEAR:
                    return "year";
                case OVER:
                    return "over";
                case TEAM:
                    return "team";
                case SLACK:
                    return "slack";
                default:
                    return "gap";
            }
        }

        /** What the token tells in a slot behind the value ahead; NONE: it cannot stand there. */
        private int valueIn(int slot, int ahead) {
            int form = at(SLOTS, slot * SLOT);
            if (form == COMPASS) {
                return whichWord("east", "north");
            }
            if (form == HAND) {
                return whichWord("left", "right");
            }
            int value = tokenNumber();
            if (!within(value, at(SLOTS, slot * SLOT + 1), at(SLOTS, slot * SLOT + 2))) {
                return NONE;
            }
            if (form == NOT_BELOW && value < ahead || form == UNLIKE && value == ahead) {
                return NONE;
            }
            return value;
        }

        private int whichWord(String first, String second) {
            if (tokenIs(first)) {
                return 0;
            }
            return tokenIs(second) ? 1 : NONE;
        }

        private boolean tokenIs(String word) {
            if (end - begin != word.length()) {
                return false;
            }
            for (int i = 0; i < word.length(); i++) {
                if (word.charAt(i) != at(text.bytes, begin + i)) {
                    return false;
                }
            }
            return true;
        }

        private int tokenNumber() {
            if (begin == end || end - begin > MOST_DIGITS || sortOf(at(text.bytes, begin)) != DIGIT) {
                return NONE;
            }
            int value = 0;
            for (int place = begin; place < end; place++) {
                value = value * 10 + at(text.bytes, place) - '0';
            }
            return value;
        }
    }

    /** What the texts told: THINGS with their YEARS and pairs, TEAMS, SLACK and GAP. */
    private static final class Ground {
        private static final int BUNDLE_ROW = 9;
        private static final int BOX = 4;
        private static final int TEAM_ROW = 4;
        private static final int LAST_TEAM = 12;
        private static final int MOST_PAIRS = 24;

        /** THINGS that are told, by bits. */
        private int told;
        private final int[] bundles = new int[BUNDLES * BUNDLE_ROW];
        /** Of each THING: from x, y, yards in x, in y. */
        private final int[] boxes = new int[THINGS * BOX];
        private final int[] firstYears = new int[THINGS];
        private final int[] lastYears = new int[THINGS];
        /** Of each number of a THING, told or not: those that it was told to lie over, by bits. */
        private final int[] under = new int[THINGS];
        private int pairs;
        private int teamsTold;
        private final int[] teamRows = new int[(LAST_TEAM + 1) * TEAM_ROW];
        private int slack = 2;
        private int gap = 20;

        Ground() {
            for (int thing = 0; thing < THINGS; thing++) {
                put(lastYears, thing, LAST_YEAR);
            }
        }

        boolean isBundle(int number) {
            return within(number, 0, BUNDLES - 1) && has(told, number);
        }

        boolean isThing(int number) {
            return within(number, 0, THINGS - 1) && has(told, number);
        }

        int toldBundles() {
            return told & ALL_BUNDLES;
        }

        int part(int bundle, int what) {
            return at(bundles, bundle * BUNDLE_ROW + what);
        }

        int yards(int bundle) {
            return part(bundle, RIDGES) * part(bundle, WIDE) * part(bundle, LONG);
        }

        int boxPart(int thing, int what) {
            return at(boxes, thing * BOX + what);
        }

        int begins(int thing, int axis) {
            return at(boxes, thing * BOX + axis);
        }

        int ends(int thing, int axis) {
            return at(boxes, thing * BOX + axis) + at(boxes, thing * BOX + 2 + axis);
        }

        /** Yards between two THINGS along an axis; below 0, if they cover some of the same. */
        int yardsBetween(int a, int b, int axis) {
            return Math.max(begins(a, axis), begins(b, axis)) - Math.min(ends(a, axis), ends(b, axis));
        }

        /** THINGS that are told right under one, by bits; pairs count when both are told. */
        int rightUnder(int thing) {
            return has(told, thing) ? at(under, thing) & told : 0;
        }

        int fittingTeams(int bundle) {
            int swing = part(bundle, SWING);
            int fitting = 0;
            for (int team = 1; team <= LAST_TEAM; team++) {
                if (has(teamsTold, team) && within(swing, teamPart(team, 0), teamPart(team, 1))) {
                    fitting |= 1 << team;
                }
            }
            return fitting;
        }

        /** SWINGS from, to (0, 1), YEARS from, to (2, 3). */
        int teamPart(int team, int what) {
            return at(teamRows, team * TEAM_ROW + what);
        }

        void doLine(Reader reader, int line) {
            int first = reader.number(line, 0);
            switch (reader.kindOf(line)) {
                case Reader.BUNDLE:
                    tellBundle(reader, line, first);
                    break;
                case Reader.MARK:
                    tellMark(reader, line, first);
                    break;
                case Reader.YEAR:
                    put(firstYears, first, reader.number(line, 1));
                    put(lastYears, first, reader.number(line, 2));
                    break;
                case Reader.OVER:
                    tellPair(first, reader.number(line, 1));
                    break;
                case Reader.TEAM:
                    tellTeam(reader, line, first);
                    break;
                case Reader.SLACK:
                    slack = first;
                    break;
                default:
                    gap = first;
                    break;
            }
        }

        private void tellBundle(Reader reader, int line, int bundle) {
            for (int what = 0; what < BUNDLE_ROW; what++) {
                put(bundles, bundle * BUNDLE_ROW + what, reader.number(line, what + 1));
            }
            int along = part(bundle, WAY);
            int across = 1 - along;
            put(boxes, bundle * BOX, part(bundle, 0));
            put(boxes, bundle * BOX + 1, part(bundle, 1));
            put(boxes, bundle * BOX + 2 + along, part(bundle, LONG));
            put(boxes, bundle * BOX + 2 + across, part(bundle, RIDGES) * part(bundle, WIDE));
            told |= 1 << bundle;
        }

        private void tellMark(Reader reader, int line, int mark) {
            for (int what = 0; what < BOX; what++) {
                put(boxes, mark * BOX + what, reader.number(line, what + 1));
            }
            told |= 1 << mark;
        }

        private void tellPair(int upper, int lower) {
            int lowers = at(under, upper);
            if (!has(lowers, lower) && pairs < MOST_PAIRS) {
                put(under, upper, lowers | 1 << lower);
                pairs++;
            }
        }

        private void tellTeam(Reader reader, int line, int team) {
            for (int what = 0; what < TEAM_ROW; what++) {
                put(teamRows, team * TEAM_ROW + what, reader.number(line, what + 1));
            }
            teamsTold |= 1 << team;
        }
    }

    /** SPANS of the THINGS, and what lies over what by others. */
    private static final class Years {
        private final Ground ground;
        private final int[] earliest = new int[THINGS];
        private final int[] latest = new int[THINGS];
        /** Of each THING: those that it lies over, told or by others, by bits. */
        private final int[] beneath = new int[THINGS];
        /** Of each THING: how many the longest row has that begins with it and goes down. */
        private final int[] height = new int[THINGS];

        Years(Ground ground) {
            this.ground = ground;
        }

        int earliestOf(int thing) {
            return at(earliest, thing);
        }

        int latestOf(int thing) {
            return at(latest, thing);
        }

        /** Finds the SPANS of all THINGS; false: there is no way. */
        boolean settle() {
            if (ringed() != 0) {
                return false;
            }
            for (int thing = 0; thing < THINGS; thing++) {
                takeToldYears(thing);
            }
            // without a ring no row is longer than there are THINGS
            for (int pass = 0; pass < THINGS; pass++) {
                for (int upper = 0; upper < THINGS; upper++) {
                    tighten(upper, ground.rightUnder(upper));
                }
            }
            for (int thing = 0; thing < THINGS; thing++) {
                if (ground.isThing(thing) && earliestOf(thing) > latestOf(thing)) {
                    return false;
                }
            }
            return true;
        }

        private void takeToldYears(int thing) {
            int from = at(ground.firstYears, thing);
            int to = at(ground.lastYears, thing);
            int fitting = ground.isBundle(thing) ? ground.fittingTeams(thing) : 0;
            if (fitting != 0) {
                int firstUse = LAST_YEAR;
                int lastUse = 0;
                for (int team = 1; team <= Ground.LAST_TEAM; team++) {
                    if (has(fitting, team)) {
                        firstUse = Math.min(firstUse, ground.teamPart(team, 2));
                        lastUse = Math.max(lastUse, ground.teamPart(team, 3));
                    }
                }
                from = Math.max(from, firstUse);
                to = Math.min(to, lastUse);
            }
            put(earliest, thing, from);
            put(latest, thing, to);
        }

        private void tighten(int upper, int lowers) {
            for (int lower = 0; lower < THINGS && lowers != 0; lower++) {
                if (has(lowers, lower)) {
                    put(earliest, upper, Math.max(earliestOf(upper), earliestOf(lower) + 1));
                    put(latest, lower, Math.min(latestOf(lower), latestOf(upper) - 1));
                }
            }
        }

        boolean liesOverByOthers(int thing, int other) {
            closeOver();
            return has(at(beneath, thing), other);
        }

        int ringed() {
            closeOver();
            int ringed = 0;
            for (int thing = 0; thing < THINGS; thing++) {
                if (has(at(beneath, thing), thing)) {
                    ringed |= 1 << thing;
                }
            }
            return ringed;
        }

        private void closeOver() {
            for (int thing = 0; thing < THINGS; thing++) {
                put(beneath, thing, ground.rightUnder(thing));
            }
            for (int middle = 0; middle < THINGS; middle++) {
                for (int upper = 0; upper < THINGS; upper++) {
                    if (has(at(beneath, upper), middle)) {
                        put(beneath, upper, at(beneath, upper) | at(beneath, middle));
                    }
                }
            }
        }

        /** The i-th of the STACK from above; how many it has for NONE. */
        int stackAt(int i) {
            if (ringed() != 0) {
                return NONE;
            }
            int tallest = measureHeights();
            if (i == NONE) {
                return tallest;
            }
            if (i >= tallest) {
                return NONE;
            }
            int thing = firstOfHeight(ground.told, tallest);
            for (int step = 1; step <= i; step++) {
                thing = firstOfHeight(ground.rightUnder(thing), tallest - step);
            }
            return thing;
        }

        private int measureHeights() {
            for (int thing = 0; thing < THINGS; thing++) {
                put(height, thing, oneIf(ground.isThing(thing)));
            }
            int tallest = 0;
            for (int pass = 0; pass < THINGS; pass++) {
                for (int upper = 0; upper < THINGS; upper++) {
                    raise(upper, ground.rightUnder(upper));
                    tallest = Math.max(tallest, at(height, upper));
                }
            }
            return tallest;
        }

        private void raise(int upper, int lowers) {
            for (int lower = 0; lower < THINGS && lowers != 0; lower++) {
                if (has(lowers, lower)) {
                    put(height, upper, Math.max(at(height, upper), at(height, lower) + 1));
                }
            }
        }

        private int firstOfHeight(int among, int wanted) {
            for (int thing = 0; thing < THINGS; thing++) {
                if (has(among, thing) && at(height, thing) == wanted) {
                    return thing;
                }
            }
            return NONE;
        }
    }

    /** BUNDLES that are JOINED, what lies between them, and the FIELDS that they make. */
    private static final class Joints {
        private final Ground ground;
        private final Years years;
        /** Of each BUNDLE: those that it is JOINED with, by bits. */
        private final int[] links = new int[BUNDLES];

        Joints(Ground ground, Years years) {
            this.ground = ground;
            this.years = years;
        }

        boolean areJoined(int a, int b) {
            int along = ground.part(a, WAY);
            return areAlike(a, b, WAY)
                    && areAlike(a, b, WIDE)
                    && areAlike(a, b, SWING)
                    && areAlike(a, b, SIDE)
                    && within(ground.yardsBetween(a, b, along), 0, ground.gap)
                    && ground.yardsBetween(a, b, 1 - along) < 0
                    && areInLine(a, b);
        }

        private boolean areAlike(int a, int b, int what) {
            return ground.part(a, what) == ground.part(b, what);
        }

        private boolean areInLine(int a, int b) {
            int across = 1 - ground.part(a, WAY);
            int apart = Math.abs(ground.begins(a, across) - ground.begins(b, across));
            int wide = ground.part(a, WIDE);
            return wouldDo(remainder(apart, wide), wide);
        }

        /** Whether what is over of WIDE is near enough to a whole number of it. */
        private boolean wouldDo(int rest, int wide) {
            return Math.min(rest, wide - rest) <= ground.slack;
        }

        /** LATER MARKS of two that are JOINED. */
        int marksBetween(int a, int b) {
            int along = ground.part(a, WAY);
            int across = 1 - along;
            int from = Math.min(ground.ends(a, along), ground.ends(b, along));
            int to = Math.max(ground.begins(a, along), ground.begins(b, along));
            int least = Math.min(ground.begins(a, across), ground.begins(b, across));
            int greatest = Math.max(ground.ends(a, across), ground.ends(b, across));
            int marks = 0;
            for (int mark = BUNDLES; mark < THINGS; mark++) {
                if (ground.isThing(mark)
                        && coversSome(mark, along, from, to)
                        && coversSome(mark, across, least, greatest)) {
                    marks |= 1 << mark;
                }
            }
            return marks;
        }

        private boolean coversSome(int thing, int axis, int from, int to) {
            return Math.max(ground.begins(thing, axis), from) < Math.min(ground.ends(thing, axis), to);
        }

        /** ODDS of a BUNDLE that is JOINED with one: above (0), below (1). */
        int oddsPart(int bundle, int part) {
            int wide = ground.part(bundle, WIDE);
            int doing = 0;
            for (int rest = 0; rest < wide; rest++) {
                if (wouldDo(rest, wide)) {
                    doing++;
                }
            }
            int common = commonDivisor(doing, wide);
            if (common < 1) {
                return NONE;
            }
            return part == 0 ? doing / common : wide / common;
        }

        private static int commonDivisor(int a, int b) {
            for (int divisor = b; divisor > 1; divisor--) {
                if (remainder(a, divisor) == 0 && remainder(b, divisor) == 0) {
                    return divisor;
                }
            }
            return 1;
        }

        int membersWith(int bundle) {
            linkAll();
            return reachFrom(bundle);
        }

        int howManyFields() {
            linkAll();
            int found = 0;
            int known = 0;
            for (int bundle = 0; bundle < BUNDLES; bundle++) {
                if (ground.isBundle(bundle) && !has(known, bundle)) {
                    known |= reachFrom(bundle);
                    found++;
                }
            }
            return found;
        }

        private void linkAll() {
            for (int a = 0; a < BUNDLES; a++) {
                int linked = 0;
                for (int b = 0; b < BUNDLES; b++) {
                    if (a != b && ground.isBundle(a) && ground.isBundle(b) && areJoined(a, b)) {
                        linked |= 1 << b;
                    }
                }
                put(links, a, linked);
            }
        }

        private int reachFrom(int bundle) {
            int reached = 1 << bundle;
            for (int pass = 0; pass < BUNDLES; pass++) {
                for (int member = 0; member < BUNDLES; member++) {
                    if (has(reached, member)) {
                        reached |= at(links, member);
                    }
                }
            }
            return reached;
        }

        int yardsOf(int members) {
            int yards = 0;
            for (int bundle = 0; bundle < BUNDLES; bundle++) {
                if (has(members, bundle)) {
                    yards += ground.yards(bundle);
                }
            }
            return yards;
        }

        /** FIRST; NONE: there is no way. */
        int firstYearOf(int members) {
            if (!years.settle()) {
                return NONE;
            }
            int first = LAST_YEAR;
            for (int bundle = 0; bundle < BUNDLES; bundle++) {
                if (has(members, bundle)) {
                    first = Math.min(first, years.earliestOf(bundle));
                }
            }
            return first;
        }
    }

    /** YARDS that are PLOUGHED; to be asked when the YEARS are settled. */
    private static final class Ploughland {
        private static final int AT_MOST = 1;

        private final Ground ground;
        private final Years years;

        Ploughland(Ground ground, Years years) {
            this.ground = ground;
            this.years = years;
        }

        int yardsIn(int year, int what) {
            int yards = 0;
            for (int bundle = 0; bundle < BUNDLES; bundle++) {
                if (ground.isBundle(bundle) && isPloughed(bundle, year, what)) {
                    yards += ground.yards(bundle);
                }
            }
            return yards;
        }

        private boolean isPloughed(int bundle, int year, int what) {
            int begun = what == AT_MOST ? years.earliestOf(bundle) : years.latestOf(bundle);
            return begun <= year && year < yearOfLoss(bundle, what);
        }

        private int yearOfLoss(int bundle, int what) {
            int lost = LAST_YEAR + 1;
            for (int mark = BUNDLES; mark < THINGS; mark++) {
                if (has(ground.rightUnder(mark), bundle)) {
                    lost = Math.min(lost, what == AT_MOST ? years.latestOf(mark) : years.earliestOf(mark));
                }
            }
            return lost;
        }

        /** PEAK: more is ploughed only from the earliest YEAR of a BUNDLE on, so no other can be it. */
        int yearOfMost() {
            int best = 0;
            int most = yardsIn(0, AT_MOST);
            for (int bundle = 0; bundle < BUNDLES; bundle++) {
                if (ground.isBundle(bundle)) {
                    int year = years.earliestOf(bundle);
                    int yards = yardsIn(year, AT_MOST);
                    if (yards > most || yards == most && year < best) {
                        best = year;
                        most = yards;
                    }
                }
            }
            return best;
        }
    }

    /** TERRIERS, and all ways to give them BUNDLES. */
    private static final class Terriers {
        private static final int MOST = 5;
        private static final int DIFFERENCES = -2;

        private final Ground ground;
        /** STRIPS of each TERRIER; 0: it is not told. */
        private final int[] strips = new int[MOST];
        private final int[] beside = new int[MOST];
        /** Of each TERRIER: BUNDLES with nearly as many RIDGES; of each BUNDLE: those that it TOUCHES. */
        private final int[] suiting = new int[MOST];
        private final int[] touching = new int[BUNDLES];
        private final int[] trial = new int[MOST];
        private final int[] likeliest = new int[MOST];
        private int ways;
        private int fewest;

        Terriers(Ground ground) {
            this.ground = ground;
        }

        int howManyTold() {
            int told = 0;
            for (int terrier = 0; terrier < MOST; terrier++) {
                told += oneIf(isTold(terrier));
            }
            return told;
        }

        private boolean isTold(int terrier) {
            return at(strips, terrier) > 0;
        }

        void tell(int terrier, int n, int set) {
            int bit = 1 << terrier;
            int others = n == 0 ? 0 : set & ~bit;
            put(strips, terrier, n);
            for (int other = 0; other < MOST; other++) {
                int without = at(beside, other) & ~bit;
                put(beside, other, has(others, other) ? without | bit : without);
            }
            put(beside, terrier, others);
        }

        int answer(int what) {
            if (what == NONE) {
                return ways;
            }
            if (ways == 0) {
                return NONE;
            }
            if (what == DIFFERENCES) {
                return fewest;
            }
            return isTold(what) ? at(likeliest, what) : NONE;
        }

        void giveAll() {
            for (int bundle = 0; bundle < BUNDLES; bundle++) {
                put(touching, bundle, touchedBy(bundle));
            }
            for (int terrier = 0; terrier < MOST; terrier++) {
                put(suiting, terrier, suitingOf(terrier));
            }
            ways = 0;
            fewest = 0;
            giveFrom(this, 0, 0, 0);
        }

        /** Gives this TERRIER and all behind it; BUNDLES in use are told by bits. */
        private static void giveFrom(Terriers all, int terrier, int used, int differences) {
            if (terrier >= MOST) {
                all.keepIfBetter(differences);
                return;
            }
            if (!all.isTold(terrier)) {
                giveFrom(all, terrier + 1, used, differences);
                return;
            }
            int open = all.openTo(terrier) & ~used;
            for (int bundle = 0; bundle < BUNDLES; bundle++) {
                if (has(open, bundle)) {
                    put(all.trial, terrier, bundle);
                    int more = all.difference(terrier, bundle);
                    giveFrom(all, terrier + 1, used | 1 << bundle, differences + more);
                }
            }
        }

        private void keepIfBetter(int differences) {
            ways++;
            if (ways == 1 || differences < fewest) {
                fewest = differences;
                for (int terrier = 0; terrier < MOST; terrier++) {
                    put(likeliest, terrier, at(trial, terrier));
                }
            }
        }

        /** BUNDLES that suit a TERRIER and TOUCH those given to its neighbours ahead of it. */
        private int openTo(int terrier) {
            int open = at(suiting, terrier);
            for (int other = 0; other < terrier; other++) {
                if (isTold(other) && has(at(beside, terrier), other)) {
                    open &= at(touching, at(trial, other));
                }
            }
            return open;
        }

        private int difference(int terrier, int bundle) {
            return Math.abs(at(strips, terrier) - ground.part(bundle, RIDGES));
        }

        private int suitingOf(int terrier) {
            int suiting = 0;
            for (int bundle = 0; bundle < BUNDLES; bundle++) {
                if (ground.isBundle(bundle) && difference(terrier, bundle) <= ground.slack) {
                    suiting |= 1 << bundle;
                }
            }
            return suiting;
        }

        private int touchedBy(int bundle) {
            int touched = 0;
            for (int other = 0; other < BUNDLES; other++) {
                if (ground.yardsBetween(bundle, other, EAST) <= ground.gap
                        && ground.yardsBetween(bundle, other, NORTH) <= ground.gap) {
                    touched |= 1 << other;
                }
            }
            return touched;
        }
    }

    /** HOLDERS of STRIPS by turns. */
    private static final class Turns {
        private static final int STRIPS = 30;

        private final int[] holders = new int[STRIPS];

        Turns() {
            for (int strip = 0; strip < STRIPS; strip++) {
                put(holders, strip, NONE);
            }
        }

        int tell(int strip, int holder) {
            int had = at(holders, strip);
            put(holders, strip, holder);
            return had;
        }

        int leastRound() {
            for (int apart = 1; apart < STRIPS; apart++) {
                if (allAlike(apart)) {
                    return apart;
                }
            }
            return STRIPS;
        }

        private boolean allAlike(int apart) {
            for (int strip = 0; strip < STRIPS; strip++) {
                for (int times = 1; times < STRIPS && strip + times * apart < STRIPS; times++) {
                    if (areUnlike(strip, strip + times * apart)) {
                        return false;
                    }
                }
            }
            return true;
        }

        private boolean areUnlike(int strip, int other) {
            int one = at(holders, strip);
            int two = at(holders, other);
            return one != NONE && two != NONE && one != two;
        }

        int holderByTurns(int strip) {
            int round = leastRound();
            int rest = remainder(strip, round);
            for (int other = 0; other < STRIPS; other++) {
                if (remainder(other, round) == rest && at(holders, other) != NONE) {
                    return at(holders, other);
                }
            }
            return NONE;
        }
    }

    /** PICTURES of evenings, and what they tell of BUNDLES. */
    private static final class Pictures {
        private static final int MOST = 8;

        private final Ground ground;
        private final int[] suns = new int[MOST];
        private final int[] heights = new int[MOST];
        private final int[] sights = new int[MOST];
        private int taken;

        Pictures(Ground ground) {
            this.ground = ground;
        }

        boolean add(int sun, int high, int sight) {
            if (taken >= MOST) {
                return false;
            }
            put(suns, taken, sun);
            put(heights, taken, high);
            put(sights, taken, sight);
            taken++;
            return true;
        }

        boolean shouldShow(int picture, int bundle) {
            return ground.part(bundle, WAY) != at(suns, picture)
                    && ground.part(bundle, HIGH) >= at(heights, picture);
        }

        int flat() {
            return due() & ~standing();
        }

        /** BUNDLES that a PICTURE should show. */
        private int due() {
            int due = 0;
            for (int picture = 0; picture < taken; picture++) {
                due |= dueIn(picture);
            }
            return due;
        }

        int standing() {
            int standing = 0;
            for (int picture = 0; picture < taken; picture++) {
                standing |= dueIn(picture) & at(sights, picture);
            }
            return standing;
        }

        private int dueIn(int picture) {
            int due = 0;
            for (int bundle = 0; bundle < BUNDLES; bundle++) {
                if (ground.isBundle(bundle) && shouldShow(picture, bundle)) {
                    due |= 1 << bundle;
                }
            }
            return due;
        }

        /** LOOK: BUNDLES that are FLAT or stand are those that are due. */
        int bestSun() {
            int open = ground.toldBundles() & ~due();
            int byEast = 0;
            int byNorth = 0;
            for (int bundle = 0; bundle < BUNDLES; bundle++) {
                if (has(open, bundle)) {
                    if (ground.part(bundle, WAY) == NORTH) {
                        byEast++;
                    } else {
                        byNorth++;
                    }
                }
            }
            return byNorth > byEast ? NORTH : EAST;
        }
    }
}
