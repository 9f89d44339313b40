import java.util.Arrays;

/** Far-out arguments in every state: no call throws, and what is refused changes nothing. */
public final class RefusalsTest {
    private static final int[] FAR = {
        Integer.MIN_VALUE, Integer.MIN_VALUE + 1, -1000000007, -256, -33, -32, -31, -6, -5, -4, -3, -2, -1, 0, 1, 2,
        4, 5, 7, 8, 13, 14, 29, 30, 31, 32, 33, 60, 61, 99, 100, 255, 256, 2000, 2001, 1 << 30, Integer.MAX_VALUE,
    };

    public static void main(String[] args) {
        refusals(new BentFurrows());
        refusals(Due.told("bundle 0 0 0 east 4 5 50 3 left 9;bundle 7 60 0 east 4 5 50 3 left 9;mark 8 50 0 10 9;over 8 0",
                "mark 13 0 0 5 5;over 13 8;team 1 0 40 500 900;year 8 600 1000"));
        refusals(Due.told("mark 8 0 0 1 1;mark 9 0 0 1 1;over 8 9;over 9 8;bundle 3 999 999 north 30 20 500 40 right 60"));
        queries();
        Due.end();
    }

    private static void refusals(BentFurrows x) {
        x.terrier(0, 4, 0);
        x.holder(5, 5);
        x.picture(0, 0, 255);
        Due.write(x, "gap 1");
        int[] before = all(x);
        for (int a : FAR) {
            for (int b : FAR) {
                if (a < 0 || a > 29 || b < -1 || b > 9) {
                    refused(x, before, "holder(" + a + ", " + b + ")", x.holder(a, b), Due.OUTSIDE);
                }
                for (int c : new int[] {Integer.MIN_VALUE, -1, 0, 31, 32, 255, 256, Integer.MAX_VALUE}) {
                    three(x, before, a, b, c);
                }
            }
            if (a < 1 || a > 8) {
                refused(x, before, "write(-1, " + a + ")", x.write(-1, a), Due.OUTSIDE);
            }
        }
    }

    private static void three(BentFurrows x, int[] before, int a, int b, int c) {
        if (a < 0 || a > 4) {
            refused(x, before, "terrier(" + a + ", " + b + ", " + c + ")", x.terrier(a, b, c), Due.UNKNOWN);
        } else if (b < 0 || b > 30 || c < 0 || c > 31) {
            refused(x, before, "terrier(" + a + ", " + b + ", " + c + ")", x.terrier(a, b, c), Due.OUTSIDE);
        }
        if (a < 0 || a > 1 || b < 0 || b > 60 || c < 0 || c > 255) {
            refused(x, before, "picture(" + a + ", " + b + ", " + c + ")", x.picture(a, b, c), Due.OUTSIDE);
        }
    }

    private static void refused(BentFurrows x, int[] before, String call, int got, int want) {
        Due.is(call, got, want);
        Due.is("nothing changed behind " + call, Arrays.equals(all(x), before) ? 1 : 0, 1);
    }

    /** What an object answers to all that only asks. */
    private static int[] all(BentFurrows x) {
        int[] answers = new int[600];
        int n = 0;
        for (int what = 0; what < 9; what++) {
            answers[n++] = x.count(what);
        }
        for (int what = -2; what < 5; what++) {
            answers[n++] = x.given(what);
        }
        for (int thing = 0; thing < 14; thing++) {
            for (int what = 0; what < 4; what++) {
                answers[n++] = x.covers(thing, what);
            }
            answers[n++] = x.span(thing, 0);
            answers[n++] = x.span(thing, 1);
        }
        for (int bundle = 0; bundle < 8; bundle++) {
            for (int what = 0; what < 10; what++) {
                answers[n++] = x.bundle(bundle, what);
            }
            answers[n++] = x.teams(bundle);
            answers[n++] = x.field(bundle, 0);
        }
        for (int strip = 0; strip < 30; strip++) {
            answers[n++] = x.whose(strip);
        }
        answers[n++] = x.fault();
        answers[n++] = x.ring();
        answers[n++] = x.stack(-1);
        answers[n++] = x.fields();
        answers[n++] = x.peak(0);
        answers[n++] = x.peak(1);
        answers[n++] = x.round();
        answers[n++] = x.seen(0);
        answers[n++] = x.seen(1);
        answers[n++] = x.seen(2);
        return answers;
    }

    /** Calls that only ask answer something for all arguments, and change nothing. */
    private static void queries() {
        BentFurrows x = Due.told("bundle 0 0 0 east 4 5 50 3 left 9;bundle 1 60 0 east 4 5 50 3 left 9;mark 8 50 0 10 9;over 8 0");
        x.terrier(0, 4, 0);
        x.picture(1, 0, 1);
        int[] before = all(x);
        for (int a : FAR) {
            for (int b : FAR) {
                boolean bundle = a == 0 || a == 1;
                boolean thing = bundle || a == 8;
                boolean pair = bundle && (b == 0 || b == 1) && a != b;
                Due.is("bundle(" + a + ", " + b + ")", sort(x.bundle(a, b)), !bundle ? -2 : b < 0 || b > 9 ? -3 : 0);
                Due.is("covers(" + a + ", " + b + ")", sort(x.covers(a, b)), !thing ? -2 : b < 0 || b > 3 ? -3 : 0);
                Due.is("span(" + a + ", " + b + ")", sort(x.span(a, b)), !thing ? -2 : b < 0 || b > 1 ? -3 : 0);
                Due.is("over(" + a + ", " + b + ")", sort(x.over(a, b)), thing && (b == 0 || b == 1 || b == 8) ? 0 : -2);
                Due.is("joined(" + a + ", " + b + ")", sort(x.joined(a, b)), pair ? 0 : -2);
                Due.is("later(" + a + ", " + b + ")", sort(x.later(a, b)), pair ? 0 : -2);
                Due.is("odds(" + a + ", " + b + ", 0)", sort(x.odds(a, b, 0)), pair ? 0 : -2);
                Due.is("odds(0, 1, " + a + ")", sort(x.odds(0, 1, a)), a == 0 || a == 1 ? 0 : -3);
                Due.is("field(" + a + ", " + b + ")", sort(x.field(a, b)), !bundle ? -2 : b < 0 || b > 2 ? -3 : 0);
                Due.is("ploughed(" + a + ", " + b + ")", sort(x.ploughed(a, b)), a < 0 || a > 2000 || b < 0 || b > 1 ? -3 : 0);
                Due.is("shows(" + a + ", " + b + ")", sort(x.shows(a, b)), a == 0 && (b == 0 || b == 1) ? 0 : -2);
            }
            Due.is("teams(" + a + ")", sort(x.teams(a)), a == 0 || a == 1 ? 0 : -2);
            Due.is("stack(" + a + ")", sort(x.stack(a)), a < -1 ? -3 : a < 2 ? 0 : -1);
            Due.is("peak(" + a + ")", sort(x.peak(a)), a == 0 || a == 1 ? 0 : -3);
            Due.is("given(" + a + ")", sort(x.given(a)), a < -2 || a > 4 ? -3 : a > 0 ? -1 : 0);
            Due.is("whose(" + a + ")", sort(x.whose(a)), a < 0 || a > 99 ? -3 : -1);
            Due.is("seen(" + a + ")", sort(x.seen(a)), a < 0 || a > 2 ? -3 : 0);
            Due.is("count(" + a + ")", sort(x.count(a)), a < 0 || a > 8 ? -3 : 0);
        }
        Due.is("asking changes nothing", Arrays.equals(all(x), before) ? 1 : 0, 1);
    }

    private static int sort(int answer) {
        return Math.min(answer, 0);
    }
}
