import java.util.Map;
import java.util.Random;
import java.util.TreeMap;

/** All promises: runs of calls by chance (the same each time) on the class and on the model. */
public final class ModelTest {
    private static final int RUNS = 500;
    /** Nothing is promised behind the 512th call, and a text may take fifty. */
    private static final int CALLS = 460;

    private final Random random;
    private final BentFurrows x = new BentFurrows();
    private final Model model = new Model();
    private final int run;
    private int made;
    /** How often each call gave each sort of answer, to see that the runs reach all of them. */
    private final Map<String, Integer> reached;

    private ModelTest(int run, Map<String, Integer> reached) {
        this.run = run;
        this.reached = reached;
        random = new Random(run);
    }

    public static void main(String[] args) {
        Map<String, Integer> reached = new TreeMap<>();
        // a number tells another first run, to look further than each landing does
        int first = args.length > 0 ? Integer.parseInt(args[0]) : 0;
        for (int run = first; run < first + RUNS; run++) {
            new ModelTest(run, reached).go();
        }
        for (String must : new String[] {
            "write FULL", "write OUTSIDE", "fault NONE", "fault 0..", "parish NOT", "parish 0..", "span NONE",
            "span 0..", "stack NONE", "stack 0..", "over 0..", "joined 0..", "later NOT", "later 0..", "odds NOT",
            "odds 0..", "field NONE", "field 0..", "ploughed NONE", "ploughed 0..", "peak NONE", "peak 0..",
            "given NONE", "given 0..", "whose NONE", "whose 0..", "picture FULL", "shows 0..", "shows UNKNOWN"}) {
            Due.is("reached: " + must, reached.getOrDefault(must, 0) > 5 ? 1 : 0, 1);
        }
        if (args.length > 0) {
            System.out.println(reached);
        }
        Due.end();
    }

    private void go() {
        for (int i = 0; i < 3; i++) {
            text(4);
        }
        while (made < CALLS) {
            if (any(30) == 0) {
                text(any(12) == 0 ? any(12) : any(5));
            } else {
                call();
            }
        }
    }

    private int any(int bound) {
        return random.nextInt(bound);
    }

    /** A number from least to most, now and then just beyond or far out. */
    private int near(int least, int most) {
        int sort = any(40);
        if (sort == 0) {
            return least - 1;
        }
        if (sort == 1) {
            return most + 1;
        }
        if (sort == 2) {
            return random.nextInt();
        }
        return least + any(most - least + 1);
    }

    private void due(String name, String arguments, int got, int want) {
        made++;
        Due.is("run " + run + ": " + name + arguments, got, want);
        String[] refusals = {"NONE", "UNKNOWN", "OUTSIDE", "NOT", "FULL"};
        String sort = want >= 0 ? "0.." : refusals[-1 - want];
        reached.merge(name + " " + sort, 1, Integer::sum);
    }

    // ---- texts

    private void text(int more) {
        StringBuilder text = new StringBuilder(line());
        for (int i = 0; i < more; i++) {
            text.append(';').append(line());
        }
        if (any(5) == 0) {
            spoil(text);
        }
        for (int from = 0; from < text.length(); from += 8) {
            int n = Math.min(8, text.length() - from);
            long bytes = Due.packed(text.toString(), from, n);
            due("write", " of '" + text + "'", x.write(bytes, n), model.write(bytes, n));
        }
        if (any(3) == 0) {
            due("fault", " of '" + text + "'", x.fault(), model.fault());
        }
        int want = model.parish();
        due("parish", " of '" + text + "'", x.parish(), want);
        if (want < 0) {
            due("fault", " of '" + text + "'", x.fault(), model.fault());
            due("erase", "", x.erase(), model.erase());
        }
    }

    private void spoil(StringBuilder text) {
        String signs = "   ;;09az.E\u00e9\0";
        for (int i = any(3); i >= 0; i--) {
            int place = any(text.length());
            char sign = signs.charAt(any(signs.length()));
            switch (any(4)) {
                case 0 -> text.insert(place, sign);
                case 1 -> text.setCharAt(place, sign);
                case 2 -> text.setLength(Math.max(1, place));
                default -> text.deleteCharAt(text.length() > 1 ? place : 0).append(' ');
            }
        }
    }

    private int year() {
        return any(3) == 0 ? any(2001) : 100 * any(21);
    }

    private String span() {
        int one = year();
        int two = any(8) == 0 ? one : year();
        return any(50) == 0 ? one + " " + two : Math.min(one, two) + " " + Math.max(one, two);
    }

    private String line() {
        switch (any(12)) {
            case 0, 1, 2, 3:
                return bundle();
            case 4, 5:
                return "mark " + (8 + any(6)) + " " + any(120) + " " + any(120) + " " + (1 + any(60)) + " " + (1 + any(60));
            case 6:
                return "year " + any(14) + " " + (any(3) == 0 ? span() : "0 2000");
            case 7, 8: {
                int upper = any(14);
                int lower = any(14);
                boolean ringed = any(30) == 0;
                return "over " + (ringed ? upper : Math.max(upper, lower)) + " " + (ringed ? lower : Math.min(upper, lower));
            }
            case 9: {
                int swing = any(41);
                return "team " + (1 + any(12)) + " " + swing + " " + (swing + any(41 - swing)) + " " + (any(2) == 0 ? span() : "0 2000");
            }
            case 10:
                return "slack " + (any(4) == 0 ? any(100) : any(5));
            default:
                return "gap " + (any(4) == 0 ? any(100) : 10 * any(5));
        }
    }

    /** Bundles of few makes on narrow ground, so that many are joined and touch. */
    private String bundle() {
        boolean east = any(4) != 0;
        int along = any(3) != 0 ? 20 * any(5) : any(100);
        int across = any(3) != 0 ? 6 * any(3) + any(3) : any(30);
        return "bundle " + any(8) + " " + (east ? along : across) + " " + (east ? across : along)
                + (east ? " east " : " north ") + (1 + any(8)) + " " + (any(8) == 0 ? 1 + any(20) : 6) + " " + (any(2) == 0 ? 20 : 10 + any(30))
                + " " + (any(8) == 0 ? any(41) : 8) + (any(6) == 0 ? " right " : " left ") + any(61);
    }

    // ---- calls

    private void call() {
        int a = near(0, 7);
        int b = near(0, 7);
        int t = near(0, 13);
        int u = near(0, 13);
        int what = near(0, 1);
        int deep = near(-1, 9);
        switch (any(26)) {
            case 0 -> due("bundle", "(" + a + ", " + deep + ")", x.bundle(a, deep), model.bundle(a, deep));
            case 1 -> due("covers", "(" + t + ", " + deep + ")", x.covers(t, deep), model.covers(t, deep));
            case 2 -> due("teams", "(" + a + ")", x.teams(a), model.teams(a));
            case 3, 4 -> due("span", "(" + t + ", " + what + ")", x.span(t, what), model.span(t, what));
            case 5 -> due("ring", "()", x.ring(), model.ring());
            case 6, 7 -> due("stack", "(" + deep + ")", x.stack(deep), model.stack(deep));
            case 8 -> due("over", "(" + t + ", " + u + ")", x.over(t, u), model.over(t, u));
            case 9 -> due("joined", "(" + a + ", " + b + ")", x.joined(a, b), model.joined(a, b));
            case 10 -> due("later", "(" + a + ", " + b + ")", x.later(a, b), model.later(a, b));
            case 11 -> due("odds", "(" + a + ", " + b + ", " + what + ")", x.odds(a, b, what), model.odds(a, b, what));
            case 12 -> due("field", "(" + a + ", " + deep + ")", x.field(a, deep / 3), model.field(a, deep / 3));
            case 13 -> due("fields", "()", x.fields(), model.fields());
            case 14 -> ploughed(what);
            case 15 -> due("peak", "(" + what + ")", x.peak(what), model.peak(what));
            case 16 -> terrier();
            case 17, 18 -> given();
            case 19 -> holder();
            case 20 -> due("round", "()", x.round(), model.round());
            case 21 -> whose();
            case 22 -> picture();
            case 23 -> due("shows", "(" + deep + ", " + a + ")", x.shows(deep, a), model.shows(deep, a));
            case 24 -> due("seen", "(" + deep + ")", x.seen(deep / 3), model.seen(deep / 3));
            default -> other(deep);
        }
    }

    private void ploughed(int what) {
        int year = any(2) == 0 ? near(0, 2000) : 100 * any(21) - any(2);
        due("ploughed", "(" + year + ", " + what + ")", x.ploughed(year, what), model.ploughed(year, what));
    }

    private void terrier() {
        int terrier = near(0, 4);
        int n = any(3) == 0 ? near(0, 30) : any(9);
        int set = any(3) == 0 ? near(0, 31) : 1 << any(5);
        due("terrier", "(" + terrier + ", " + n + ", " + set + ")", x.terrier(terrier, n, set), model.terrier(terrier, n, set));
    }

    private void given() {
        int what = near(-2, 4);
        due("given", "(" + what + ")", x.given(what), model.given(what));
    }

    /** Mostly by turns of seven, so that rounds are found. */
    private void holder() {
        int strip = near(0, 29);
        int holder = any(4) == 0 ? near(-1, 9) : Math.floorMod(strip, 7);
        due("holder", "(" + strip + ", " + holder + ")", x.holder(strip, holder), model.holder(strip, holder));
    }

    private void whose() {
        int strip = near(0, 99);
        due("whose", "(" + strip + ")", x.whose(strip), model.whose(strip));
    }

    private void picture() {
        int sun = near(0, 1);
        int high = near(0, 60);
        int seen = any(2) == 0 ? 1 << any(8) : near(0, 255);
        due("picture", "(" + sun + ", " + high + ", " + seen + ")", x.picture(sun, high, seen), model.picture(sun, high, seen));
    }

    private void other(int what) {
        switch (any(3)) {
            case 0 -> due("count", "(" + what + ")", x.count(what), model.count(what));
            case 1 -> {
                long bytes = random.nextLong();
                int n = near(1, 8);
                due("write", "(" + bytes + ", " + n + ")", x.write(bytes, n), model.write(bytes, n));
                due("fault", "()", x.fault(), model.fault());
                due("erase", "()", x.erase(), model.erase());
            }
            default -> due("count", "(4)", x.count(4), model.count(4));
        }
    }
}
