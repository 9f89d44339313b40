import java.util.ArrayList;
import java.util.List;
import java.util.function.Supplier;
import java.util.function.ToIntFunction;

/**
 * "Refused, and nothing changes: UNKNOWN, OUTSIDE, NOT, FULL: the first of these that fits": each call
 * with each argument at its ends, one beyond, and at the least and the greatest number there is, on an
 * object that is new, one with some things told, one that is full and one without a way for its years.
 */
public final class RefusalsTest {
    private static final int LEAST = Integer.MIN_VALUE;
    private static final int MOST = Integer.MAX_VALUE;

    /** An object, and what is told in it, by bits; bundles 0 and 1 are joined, if both are told. */
    private record State(String name, Supplier<BentFurrows> make, int things, int pictures, int bytes, boolean fault) {
        boolean isThing(int number) {
            return number >= 0 && number < 14 && (things >> number & 1) == 1;
        }

        boolean isBundle(int number) {
            return number < 8 && isThing(number);
        }

        boolean isPair(int a, int b) {
            return a != b && isBundle(a) && isBundle(b);
        }

        boolean areJoined(int a, int b) {
            return isPair(a, b) && a < 2 && b < 2;
        }
    }

    private final State state;
    private final List<List<Integer>> untouched = new ArrayList<>();

    private RefusalsTest(State state) {
        this.state = state;
        for (int part = 0; part < Asked.PARTS; part++) {
            untouched.add(Asked.part(state.make.get(), part));
        }
    }

    public static void main(String[] args) {
        new RefusalsTest(new State("new", BentFurrows::new, 0, 0, 0, true)).all();
        new RefusalsTest(new State("some", RefusalsTest::some, 0x2183, 2, 5, false)).all();
        new RefusalsTest(new State("full", RefusalsTest::full, 0x3fff, 8, 200, false)).all();
        new RefusalsTest(new State("no way", RefusalsTest::noWay, 0x0303, 1, 7, true)).all();
        Due.end();
    }

    private static BentFurrows some() {
        BentFurrows x = Due.told("bundle 0 0 0 east 4 5 50 3 left 9;bundle 1 60 0 east 4 5 50 3 left 9;bundle 7 0 99 north 4 5 50 0 left 9",
                "mark 8 50 0 10 9;mark 13 0 0 5 5;over 8 0;over 13 8;team 1 0 40 500 900;year 8 600 1000;over 5 4");
        x.terrier(0, 4, 2);
        x.terrier(1, 5, 1);
        x.holder(0, 5);
        x.holder(29, 9);
        x.picture(0, 5, 128);
        x.picture(1, 9, 1);
        Due.write(x, "gap 1");
        return x;
    }

    private static BentFurrows full() {
        BentFurrows x = new BentFurrows();
        for (int bundle = 0; bundle < 8; bundle++) {
            int swing = bundle < 2 ? 9 : bundle;
            Due.tell(x, "bundle " + bundle + " " + 50 * bundle + " 0 east " + (bundle + 1) + " 9 40 " + swing + " left " + 8 * bundle);
        }
        for (int mark = 8; mark < 14; mark++) {
            Due.tell(x, "mark " + mark + " 40 " + mark + " 9 9;year " + mark + " " + mark + " 1999");
        }
        for (int pair = 0; pair < 24; pair += 6) {
            int upper = 13 - pair / 6;
            Due.tell(x, "over " + upper + " 0;over " + upper + " 1;over " + upper + " 2;over " + upper + " 3;over " + upper + " 4;over " + upper + " 5");
        }
        for (int team = 1; team <= 12; team++) {
            Due.tell(x, "team " + team + " " + team + " 40 " + 9 * team + " 1999");
        }
        for (int terrier = 0; terrier < 5; terrier++) {
            x.terrier(terrier, terrier + 2, 1 << (terrier + 1) % 5);
        }
        for (int strip = 0; strip < 30; strip++) {
            x.holder(strip, strip % 7);
        }
        for (int picture = 0; picture < 8; picture++) {
            x.picture(1, 8 * picture, 1 << picture);
        }
        Due.write(x, "slack 3" + " ".repeat(193));
        return x;
    }

    private static BentFurrows noWay() {
        BentFurrows x = Due.told("bundle 0 0 0 east 4 5 50 3 left 9;bundle 1 60 0 east 4 5 50 3 left 9",
                "mark 8 0 0 1 1;mark 9 0 0 1 1;over 8 9;over 9 8");
        x.terrier(4, 30, 0);
        x.picture(1, 60, 255);
        Due.write(x, "gap 100");
        return x;
    }

    private void all() {
        textCalls();
        oneArgument();
        twoArguments();
        threeArguments();
    }

    /** A refusal that is due (below NONE), and that nothing changed behind it; or that there is none. */
    private void refused(String call, int due, ToIntFunction<BentFurrows> asked) {
        if (due >= Due.NONE) {
            int answer = asked.applyAsInt(state.make.get());
            Due.is(state.name + ": " + call + " is not refused", answer >= Due.NONE ? 1 : 0, 1);
            return;
        }
        for (int part = 0; part < Asked.PARTS; part++) {
            BentFurrows x = state.make.get();
            Due.is(state.name + ": " + call, asked.applyAsInt(x), due);
            Due.is(state.name + ": " + call + " again", asked.applyAsInt(x), due);
            boolean same = Asked.part(x, part).equals(untouched.get(part));
            Due.is(state.name + ": nothing changed behind " + call + " in part " + part, same ? 1 : 0, 1);
        }
    }

    private static boolean in(int number, int least, int most) {
        return number >= least && number <= most;
    }

    /** What lies at the ends of a row of numbers, beyond them and far out. */
    private static int[] ends(int least, int most) {
        return new int[] {LEAST, least - 1, least, most, most + 1, MOST};
    }

    private static int outsideUnless(boolean so) {
        return so ? 0 : Due.OUTSIDE;
    }

    private void textCalls() {
        for (int n : ends(1, 8)) {
            for (long bytes : new long[] {Long.MIN_VALUE, -1, 0, 0x2020202020202020L, Long.MAX_VALUE}) {
                int due = !in(n, 1, 8) ? Due.OUTSIDE : state.bytes + n > 200 ? Due.FULL : 0;
                refused("write(" + bytes + ", " + n + ")", due, x -> x.write(bytes, n));
            }
        }
        refused("parish()", state.fault ? Due.NOT : 0, BentFurrows::parish);
    }

    private void oneArgument() {
        for (int bundle : ends(0, 7)) {
            refused("teams(" + bundle + ")", state.isBundle(bundle) ? 0 : Due.UNKNOWN, x -> x.teams(bundle));
        }
        for (int i : ends(-1, 13)) {
            refused("stack(" + i + ")", outsideUnless(i >= -1), x -> x.stack(i));
        }
        for (int what : ends(0, 1)) {
            refused("peak(" + what + ")", outsideUnless(in(what, 0, 1)), x -> x.peak(what));
        }
        for (int what : ends(-2, 4)) {
            refused("given(" + what + ")", outsideUnless(in(what, -2, 4)), x -> x.given(what));
        }
        for (int strip : ends(0, 99)) {
            refused("whose(" + strip + ")", outsideUnless(in(strip, 0, 99)), x -> x.whose(strip));
        }
        for (int what : ends(0, 2)) {
            refused("seen(" + what + ")", outsideUnless(in(what, 0, 2)), x -> x.seen(what));
        }
        for (int what : ends(0, 8)) {
            refused("count(" + what + ")", outsideUnless(in(what, 0, 8)), x -> x.count(what));
        }
    }

    private void twoArguments() {
        for (int thing : new int[] {LEAST, -1, 0, 1, 2, 7, 8, 9, 13, 14, MOST}) {
            for (int what : ends(0, 9)) {
                int due = !state.isBundle(thing) ? Due.UNKNOWN : outsideUnless(in(what, 0, 9));
                refused("bundle(" + thing + ", " + what + ")", due, x -> x.bundle(thing, what));
            }
            for (int what : ends(0, 3)) {
                int due = !state.isThing(thing) ? Due.UNKNOWN : outsideUnless(in(what, 0, 3));
                refused("covers(" + thing + ", " + what + ")", due, x -> x.covers(thing, what));
            }
            for (int what : ends(0, 1)) {
                int due = !state.isThing(thing) ? Due.UNKNOWN : outsideUnless(in(what, 0, 1));
                refused("span(" + thing + ", " + what + ")", due, x -> x.span(thing, what));
            }
            for (int what : ends(0, 2)) {
                int due = !state.isBundle(thing) ? Due.UNKNOWN : outsideUnless(in(what, 0, 2));
                refused("field(" + thing + ", " + what + ")", due, x -> x.field(thing, what));
            }
            for (int other : new int[] {LEAST, -1, 0, 1, 7, 8, 13, 14, MOST}) {
                pair(thing, other);
            }
        }
        for (int year : ends(0, 2000)) {
            for (int what : ends(0, 1)) {
                int due = outsideUnless(in(year, 0, 2000) && in(what, 0, 1));
                refused("ploughed(" + year + ", " + what + ")", due, x -> x.ploughed(year, what));
            }
        }
        for (int strip : ends(0, 29)) {
            for (int holder : ends(-1, 9)) {
                int due = outsideUnless(in(strip, 0, 29) && in(holder, -1, 9));
                refused("holder(" + strip + ", " + holder + ")", due, x -> x.holder(strip, holder));
            }
        }
        for (int picture : new int[] {LEAST, -1, 0, 1, 2, 7, 8, MOST}) {
            for (int bundle : ends(0, 7)) {
                boolean known = in(picture, 0, state.pictures - 1) && state.isBundle(bundle);
                refused("shows(" + picture + ", " + bundle + ")", known ? 0 : Due.UNKNOWN, x -> x.shows(picture, bundle));
            }
        }
    }

    private void pair(int a, int b) {
        boolean things = state.isThing(a) && state.isThing(b);
        refused("over(" + a + ", " + b + ")", things ? 0 : Due.UNKNOWN, x -> x.over(a, b));
        refused("joined(" + a + ", " + b + ")", state.isPair(a, b) ? 0 : Due.UNKNOWN, x -> x.joined(a, b));
        int joined = state.areJoined(a, b) ? 0 : Due.NOT;
        refused("later(" + a + ", " + b + ")", state.isPair(a, b) ? joined : Due.UNKNOWN, x -> x.later(a, b));
        for (int part : ends(0, 1)) {
            int due = !state.isPair(a, b) ? Due.UNKNOWN : !in(part, 0, 1) ? Due.OUTSIDE : joined;
            refused("odds(" + a + ", " + b + ", " + part + ")", due, x -> x.odds(a, b, part));
        }
    }

    private void threeArguments() {
        for (int terrier : ends(0, 4)) {
            for (int n : ends(0, 30)) {
                for (int set : ends(0, 31)) {
                    int due = !in(terrier, 0, 4) ? Due.UNKNOWN : outsideUnless(in(n, 0, 30) && in(set, 0, 31));
                    refused("terrier(" + terrier + ", " + n + ", " + set + ")", due, x -> x.terrier(terrier, n, set));
                }
            }
        }
        for (int sun : ends(0, 1)) {
            for (int high : ends(0, 60)) {
                for (int seen : ends(0, 255)) {
                    boolean inside = in(sun, 0, 1) && in(high, 0, 60) && in(seen, 0, 255);
                    int due = !inside ? Due.OUTSIDE : state.pictures == 8 ? Due.FULL : 0;
                    refused("picture(" + sun + ", " + high + ", " + seen + ")", due, x -> x.picture(sun, high, seen));
                }
            }
        }
    }
}
