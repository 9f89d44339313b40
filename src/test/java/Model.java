import java.util.ArrayList;
import java.util.Collections;
import java.util.LinkedHashSet;
import java.util.List;
import java.util.Map;
import java.util.Set;
import java.util.TreeMap;
import java.util.TreeSet;
import java.util.regex.Matcher;
import java.util.regex.Pattern;

/**
 * The document once more, as slow and plain as can be: yards are walked one by one, years are
 * tried, ways are all written down. It shares no code and no trick with the class.
 */
final class Model {
    static final int NONE = -1, UNKNOWN = -2, OUTSIDE = -3, NOT = -4, FULL = -5;

    private record Bundle(int x, int y, String way, int ridges, int wide, int length, int swing, String side, int high) {
        int yards() {
            return ridges * wide * length;
        }

        Box box() {
            return way.equals("east") ? new Box(x, y, length, ridges * wide) : new Box(x, y, ridges * wide, length);
        }
    }

    private record Box(int x, int y, int a, int b) {
        int from(boolean alongX) {
            return alongX ? x : y;
        }

        int to(boolean alongX) {
            return alongX ? x + a : y + b;
        }

        Set<Integer> yards(boolean alongX) {
            Set<Integer> yards = new TreeSet<>();
            for (int i = from(alongX); i < to(alongX); i++) {
                yards.add(i);
            }
            return yards;
        }
    }

    private record Team(int a, int b, int from, int to) {
    }

    private record Pair(int upper, int lower) {
    }

    private record Picture(int sun, int high, int seen) {
    }

    private record Token(String sign, int place) {
    }

    private final StringBuilder text = new StringBuilder();
    private final Map<Integer, Bundle> bundles = new TreeMap<>();
    private final Map<Integer, Box> marks = new TreeMap<>();
    private final Map<Integer, int[]> years = new TreeMap<>();
    private final Set<Pair> pairs = new LinkedHashSet<>();
    private final Map<Integer, Team> teams = new TreeMap<>();
    private int slack = 2;
    private int gap = 20;
    private final Map<Integer, Integer> terriers = new TreeMap<>();
    private final Set<Set<Integer>> beside = new LinkedHashSet<>();
    private final Map<Integer, Integer> holders = new TreeMap<>();
    private final List<Picture> pictures = new ArrayList<>();

    // ---- what is told

    int write(long bytes, int n) {
        if (n < 1 || n > 8) {
            return OUTSIDE;
        }
        if (text.length() + n > 200) {
            return FULL;
        }
        for (int i = 0; i < n; i++) {
            text.append((char) (bytes >> 8 * i & 255));
        }
        return text.length();
    }

    int erase() {
        int had = text.length();
        text.setLength(0);
        return had;
    }

    int fault() {
        return read(new ArrayList<>());
    }

    int parish() {
        List<List<String>> lines = new ArrayList<>();
        if (read(lines) != NONE) {
            return NOT;
        }
        lines.forEach(this::done);
        text.setLength(0);
        return lines.size();
    }

    private static final Map<String, String> FORMS = Map.of(
            "bundle", "0-7 0-999 0-999 east|north 1-30 1-20 1-500 0-40 left|right 0-60",
            "mark", "8-13 0-999 0-999 1-999 1-999",
            "year", "0-13 0-2000 0-2000>",
            "over", "0-13 0-13!",
            "team", "1-12 0-40 0-40> 0-2000 0-2000>",
            "slack", "0-99",
            "gap", "0-99");

    private int read(List<List<String>> lines) {
        List<Token> tokens = new ArrayList<>();
        Matcher m = Pattern.compile("[a-z]+|[0-9]+|[^ ]", Pattern.DOTALL).matcher(text);
        while (m.find()) {
            tokens.add(new Token(m.group(), m.start()));
        }
        tokens.add(new Token("", text.length()));
        int next = 0;
        while (true) {
            List<String> line = new ArrayList<>();
            Token word = tokens.get(next++);
            if (!FORMS.containsKey(word.sign)) {
                return word.place;
            }
            line.add(word.sign);
            for (String form : FORMS.get(word.sign).split(" ")) {
                Token token = tokens.get(next++);
                if (!fits(token.sign, form, line.get(line.size() - 1))) {
                    return token.place;
                }
                line.add(token.sign);
            }
            lines.add(line);
            Token behind = tokens.get(next++);
            if (behind.sign.isEmpty()) {
                return NONE;
            }
            if (!behind.sign.equals(";") || lines.size() == 8) {
                return behind.place;
            }
        }
    }

    private static boolean fits(String sign, String form, String ahead) {
        if (form.contains("|")) {
            return List.of(form.split("\\|")).contains(sign);
        }
        if (!sign.matches("[0-9]{1,4}")) {
            return false;
        }
        int value = Integer.parseInt(sign);
        String[] bounds = form.replaceAll("[>!]", "").split("-");
        if (value < Integer.parseInt(bounds[0]) || value > Integer.parseInt(bounds[1])) {
            return false;
        }
        if (form.endsWith(">")) {
            return value >= Integer.parseInt(ahead);
        }
        return !form.endsWith("!") || value != Integer.parseInt(ahead);
    }

    private void done(List<String> line) {
        int[] n = new int[line.size()];
        for (int i = 1; i < n.length; i++) {
            n[i] = line.get(i).matches("[0-9]+") ? Integer.parseInt(line.get(i)) : 0;
        }
        switch (line.get(0)) {
            case "bundle" -> bundles.put(n[1], new Bundle(n[2], n[3], line.get(4), n[5], n[6], n[7], n[8], line.get(9), n[10]));
            case "mark" -> marks.put(n[1], new Box(n[2], n[3], n[4], n[5]));
            case "year" -> years.put(n[1], new int[] {n[2], n[3]});
            case "over" -> {
                if (pairs.size() < 24) {
                    pairs.add(new Pair(n[1], n[2]));
                }
            }
            case "team" -> teams.put(n[1], new Team(n[2], n[3], n[4], n[5]));
            case "slack" -> slack = n[1];
            default -> gap = n[1];
        }
    }

    int bundle(int bundle, int what) {
        Bundle b = bundles.get(bundle);
        if (b == null) {
            return UNKNOWN;
        }
        List<Integer> all = List.of(b.x, b.y, b.way.equals("north") ? 1 : 0, b.ridges, b.wide, b.length, b.swing,
                b.side.equals("right") ? 1 : 0, b.high, b.yards());
        return what < 0 || what > 9 ? OUTSIDE : all.get(what);
    }

    int covers(int thing, int what) {
        Box box = box(thing);
        if (box == null) {
            return UNKNOWN;
        }
        return what < 0 || what > 3 ? OUTSIDE : List.of(box.x, box.y, box.a, box.b).get(what);
    }

    private Box box(int thing) {
        return bundles.containsKey(thing) ? bundles.get(thing).box() : marks.get(thing);
    }

    // ---- years

    int teams(int bundle) {
        if (!bundles.containsKey(bundle)) {
            return UNKNOWN;
        }
        int bits = 0;
        for (int team : teams.keySet()) {
            bits += fits(team, bundle) ? 1 << team : 0;
        }
        return bits;
    }

    private boolean fits(int team, int bundle) {
        int swing = bundles.get(bundle).swing;
        return teams.get(team).a <= swing && swing <= teams.get(team).b;
    }

    private Set<Integer> things() {
        Set<Integer> things = new TreeSet<>(bundles.keySet());
        things.addAll(marks.keySet());
        return things;
    }

    private Set<Integer> under(int thing) {
        Set<Integer> under = new TreeSet<>();
        for (Pair p : pairs) {
            if (p.upper == thing && things().contains(p.upper) && things().contains(p.lower)) {
                under.add(p.lower);
            }
        }
        return under;
    }

    private Set<Integer> below(int thing) {
        Set<Integer> below = new TreeSet<>();
        List<Integer> open = new ArrayList<>(under(thing));
        while (!open.isEmpty()) {
            int next = open.remove(0);
            if (below.add(next)) {
                open.addAll(under(next));
            }
        }
        return below;
    }

    /** Earliest and latest of each thing; null: there is no way. */
    private Map<Integer, int[]> spans() {
        if (ring() != 0) {
            return null;
        }
        Map<Integer, int[]> spans = new TreeMap<>();
        for (int thing : things()) {
            int[] span = years.getOrDefault(thing, new int[] {0, 2000}).clone();
            int first = Integer.MAX_VALUE;
            int last = Integer.MIN_VALUE;
            for (int team : teams.keySet()) {
                if (bundles.containsKey(thing) && fits(team, thing)) {
                    first = Math.min(first, teams.get(team).from);
                    last = Math.max(last, teams.get(team).to);
                }
            }
            if (last >= 0) {
                span = new int[] {Math.max(span[0], first), Math.min(span[1], last)};
            }
            spans.put(thing, span);
        }
        boolean changed = true;
        while (changed) {
            changed = false;
            for (int upper : spans.keySet()) {
                for (int lower : under(upper)) {
                    if (spans.get(upper)[0] <= spans.get(lower)[0]) {
                        spans.get(upper)[0]++;
                        changed = true;
                    }
                    if (spans.get(lower)[1] >= spans.get(upper)[1]) {
                        spans.get(lower)[1]--;
                        changed = true;
                    }
                }
            }
        }
        for (int[] span : spans.values()) {
            if (span[0] > span[1]) {
                return null;
            }
        }
        return spans;
    }

    int span(int thing, int what) {
        if (box(thing) == null) {
            return UNKNOWN;
        }
        if (what != 0 && what != 1) {
            return OUTSIDE;
        }
        Map<Integer, int[]> spans = spans();
        return spans == null ? NONE : spans.get(thing)[what];
    }

    int ring() {
        int bits = 0;
        for (int thing : things()) {
            bits += below(thing).contains(thing) ? 1 << thing : 0;
        }
        return bits;
    }

    int stack(int i) {
        if (i < NONE) {
            return OUTSIDE;
        }
        if (ring() != 0) {
            return NONE;
        }
        List<Integer> best = new ArrayList<>();
        for (int thing : things()) {
            best = better(best, longestFrom(thing));
        }
        if (i == NONE) {
            return best.size();
        }
        return i < best.size() ? best.get(i) : NONE;
    }

    private List<Integer> longestFrom(int thing) {
        List<Integer> best = new ArrayList<>();
        for (int lower : under(thing)) {
            best = better(best, longestFrom(lower));
        }
        List<Integer> row = new ArrayList<>(List.of(thing));
        row.addAll(best);
        return row;
    }

    private static List<Integer> better(List<Integer> one, List<Integer> two) {
        if (one.size() != two.size()) {
            return one.size() > two.size() ? one : two;
        }
        for (int i = 0; i < one.size(); i++) {
            if (!one.get(i).equals(two.get(i))) {
                return one.get(i) < two.get(i) ? one : two;
            }
        }
        return one;
    }

    int over(int thing, int other) {
        if (box(thing) == null || box(other) == null) {
            return UNKNOWN;
        }
        return below(thing).contains(other) ? 1 : 0;
    }

    // ---- what was one

    int joined(int a, int b) {
        if (a == b || !bundles.containsKey(a) || !bundles.containsKey(b)) {
            return UNKNOWN;
        }
        return areJoined(a, b) ? 1 : 0;
    }

    private boolean areJoined(int a, int b) {
        Bundle one = bundles.get(a);
        Bundle two = bundles.get(b);
        boolean alongX = one.way.equals("east");
        if (!one.way.equals(two.way) || one.wide != two.wide || one.swing != two.swing || !one.side.equals(two.side)) {
            return false;
        }
        int behindOne = two.box().from(alongX) - one.box().to(alongX);
        int behindTwo = one.box().from(alongX) - two.box().to(alongX);
        if (!(behindOne >= 0 && behindOne <= gap || behindTwo >= 0 && behindTwo <= gap)) {
            return false;
        }
        if (Collections.disjoint(one.box().yards(!alongX), two.box().yards(!alongX))) {
            return false;
        }
        int apart = Math.abs(one.box().from(!alongX) - two.box().from(!alongX));
        return doing(apart, one.wide);
    }

    /** Whether some whole number of wide is slack or less away. */
    private boolean doing(int apart, int wide) {
        for (int whole = 0; whole <= 2000; whole += wide) {
            if (Math.abs(apart - whole) <= slack) {
                return true;
            }
        }
        return false;
    }

    int later(int a, int b) {
        if (joined(a, b) != 1) {
            return joined(a, b) == UNKNOWN ? UNKNOWN : NOT;
        }
        boolean alongX = bundles.get(a).way.equals("east");
        Box one = bundles.get(a).box();
        Box two = bundles.get(b).box();
        if (one.from(alongX) > two.from(alongX)) {
            Box swap = one;
            one = two;
            two = swap;
        }
        int bits = 0;
        for (int mark : marks.keySet()) {
            boolean along = false;
            for (int yard = one.to(alongX); yard < two.from(alongX); yard++) {
                along |= marks.get(mark).yards(alongX).contains(yard);
            }
            boolean across = false;
            for (int yard = Math.min(one.from(!alongX), two.from(!alongX));
                    yard < Math.max(one.to(!alongX), two.to(!alongX)); yard++) {
                across |= marks.get(mark).yards(!alongX).contains(yard);
            }
            bits += along && across ? 1 << mark : 0;
        }
        return bits;
    }

    int odds(int a, int b, int part) {
        int joined = joined(a, b);
        if (joined == UNKNOWN) {
            return UNKNOWN;
        }
        if (part != 0 && part != 1) {
            return OUTSIDE;
        }
        if (joined == 0) {
            return NOT;
        }
        int below = bundles.get(a).wide;
        int above = 0;
        for (int rest = 0; rest < below; rest++) {
            above += doing(rest, below) ? 1 : 0;
        }
        for (int divisor = 2; divisor <= below; divisor++) {
            while (above % divisor == 0 && below % divisor == 0) {
                above /= divisor;
                below /= divisor;
            }
        }
        return part == 0 ? above : below;
    }

    private Set<Integer> fieldOf(int bundle) {
        Set<Integer> field = new TreeSet<>(Set.of(bundle));
        for (int round = 0; round < 8; round++) {
            for (int member : List.copyOf(field)) {
                for (int other : bundles.keySet()) {
                    if (other != member && areJoined(member, other)) {
                        field.add(other);
                    }
                }
            }
        }
        return field;
    }

    int field(int bundle, int what) {
        if (!bundles.containsKey(bundle)) {
            return UNKNOWN;
        }
        if (what < 0 || what > 2) {
            return OUTSIDE;
        }
        Set<Integer> field = fieldOf(bundle);
        Map<Integer, int[]> spans = spans();
        if (what == 2 && spans == null) {
            return NONE;
        }
        int sum = 0;
        int first = 2000;
        for (int member : field) {
            sum += what == 0 ? 1 << member : bundles.get(member).yards();
            first = Math.min(first, spans == null ? 0 : spans.get(member)[0]);
        }
        return what == 2 ? first : sum;
    }

    int fields() {
        Set<Set<Integer>> fields = new LinkedHashSet<>();
        bundles.keySet().forEach(bundle -> fields.add(fieldOf(bundle)));
        return fields.size();
    }

    int ploughed(int year, int what) {
        if (year < 0 || year > 2000 || what < 0 || what > 1) {
            return OUTSIDE;
        }
        Map<Integer, int[]> spans = spans();
        return spans == null ? NONE : yardsIn(year, what, spans);
    }

    private int yardsIn(int year, int what, Map<Integer, int[]> spans) {
        int yards = 0;
        for (int bundle : bundles.keySet()) {
            boolean ploughed = spans.get(bundle)[1 - what] <= year;
            for (int mark : marks.keySet()) {
                if (pairs.contains(new Pair(mark, bundle)) && year >= spans.get(mark)[what]) {
                    ploughed = false;
                }
            }
            yards += ploughed ? bundles.get(bundle).yards() : 0;
        }
        return yards;
    }

    int peak(int what) {
        if (what < 0 || what > 1) {
            return OUTSIDE;
        }
        Map<Integer, int[]> spans = spans();
        if (spans == null) {
            return NONE;
        }
        int most = -1;
        int best = -1;
        for (int year = 0; year <= 2000; year++) {
            int yards = yardsIn(year, 1, spans);
            if (yards > most) {
                most = yards;
                best = year;
            }
        }
        return what == 0 ? best : most;
    }

    // ---- terriers, turns

    int terrier(int terrier, int n, int set) {
        if (terrier < 0 || terrier > 4) {
            return UNKNOWN;
        }
        if (n < 0 || n > 30 || set < 0 || set > 31) {
            return OUTSIDE;
        }
        beside.removeIf(two -> two.contains(terrier));
        terriers.remove(terrier);
        if (n > 0) {
            terriers.put(terrier, n);
            for (int other = 0; other < 5; other++) {
                if (other != terrier && (set & 1 << other) != 0) {
                    beside.add(Set.of(terrier, other));
                }
            }
        }
        return 1;
    }

    private boolean touch(int a, int b) {
        for (boolean alongX : new boolean[] {true, false}) {
            Box one = bundles.get(a).box();
            Box two = bundles.get(b).box();
            if (two.from(alongX) - one.to(alongX) > gap || one.from(alongX) - two.to(alongX) > gap) {
                return false;
            }
        }
        return true;
    }

    private boolean isWay(List<Integer> told, List<Integer> way) {
        if (Set.copyOf(way).size() < way.size()) {
            return false;
        }
        for (int i = 0; i < way.size(); i++) {
            if (Math.abs(bundles.get(way.get(i)).ridges - terriers.get(told.get(i))) > slack) {
                return false;
            }
            for (int j = 0; j < i; j++) {
                if (beside.contains(Set.of(told.get(i), told.get(j))) && !touch(way.get(i), way.get(j))) {
                    return false;
                }
            }
        }
        return true;
    }

    private int differences(List<Integer> told, List<Integer> way) {
        int sum = 0;
        for (int i = 0; i < way.size(); i++) {
            sum += Math.abs(bundles.get(way.get(i)).ridges - terriers.get(told.get(i)));
        }
        return sum;
    }

    int given(int what) {
        if (what < -2 || what > 4) {
            return OUTSIDE;
        }
        List<Integer> told = new ArrayList<>(terriers.keySet());
        List<List<Integer>> ways = new ArrayList<>(List.of(List.of()));
        for (int i = 0; i < told.size(); i++) {
            List<List<Integer>> longer = new ArrayList<>();
            for (List<Integer> way : ways) {
                for (int bundle : bundles.keySet()) {
                    List<Integer> more = new ArrayList<>(way);
                    more.add(bundle);
                    if (isWay(told, more)) {
                        longer.add(more);
                    }
                }
            }
            ways = longer;
        }
        if (what == NONE) {
            return ways.size();
        }
        if (ways.isEmpty() || what >= 0 && !terriers.containsKey(what)) {
            return NONE;
        }
        List<Integer> best = ways.get(0);
        for (List<Integer> way : ways) {
            if (differences(told, way) < differences(told, best)) {
                best = way;
            }
        }
        return what == -2 ? differences(told, best) : best.get(told.indexOf(what));
    }

    int holder(int strip, int holder) {
        if (strip < 0 || strip > 29 || holder < -1 || holder > 9) {
            return OUTSIDE;
        }
        Integer had = holder == NONE ? holders.remove(strip) : holders.put(strip, holder);
        return had == null ? NONE : had;
    }

    int round() {
        for (int p = 1; p <= 30; p++) {
            boolean alike = true;
            for (int one : holders.keySet()) {
                for (int two : holders.keySet()) {
                    alike &= (one - two) % p != 0 || holders.get(one).equals(holders.get(two));
                }
            }
            if (alike) {
                return p;
            }
        }
        return 0;
    }

    int whose(int strip) {
        if (strip < 0 || strip > 99) {
            return OUTSIDE;
        }
        for (int told : holders.keySet()) {
            if (Math.floorMod(told, round()) == Math.floorMod(strip, round())) {
                return holders.get(told);
            }
        }
        return NONE;
    }

    // ---- pictures

    int picture(int sun, int high, int seen) {
        if (sun < 0 || sun > 1 || high < 0 || high > 60 || seen < 0 || seen > 255) {
            return OUTSIDE;
        }
        if (pictures.size() == 8) {
            return FULL;
        }
        pictures.add(new Picture(sun, high, seen));
        return pictures.size();
    }

    int shows(int picture, int bundle) {
        if (picture < 0 || picture >= pictures.size() || !bundles.containsKey(bundle)) {
            return UNKNOWN;
        }
        return shouldShow(pictures.get(picture), bundle) ? 1 : 0;
    }

    private boolean shouldShow(Picture picture, int bundle) {
        Bundle b = bundles.get(bundle);
        return b.way.equals(picture.sun == 0 ? "north" : "east") && b.high >= picture.high;
    }

    int seen(int what) {
        int flat = 0;
        int stands = 0;
        int[] would = new int[2];
        for (int bundle : bundles.keySet()) {
            boolean due = false;
            boolean was = false;
            for (Picture p : pictures) {
                due |= shouldShow(p, bundle);
                was |= shouldShow(p, bundle) && (p.seen & 1 << bundle) != 0;
            }
            flat += due && !was ? 1 << bundle : 0;
            stands += was ? 1 << bundle : 0;
            if (!due) {
                would[bundles.get(bundle).way.equals("north") ? 0 : 1]++;
            }
        }
        return switch (what) {
            case 0 -> flat;
            case 1 -> stands;
            case 2 -> would[0] >= would[1] ? 0 : 1;
            default -> OUTSIDE;
        };
    }

    int count(int what) {
        int[] all = {bundles.size(), marks.size(), pairs.size(), teams.size(), text.length(), terriers.size(),
            pictures.size(), slack, gap};
        return what < 0 || what > 8 ? OUTSIDE : all[what];
    }
}
