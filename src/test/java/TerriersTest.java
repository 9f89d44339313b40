/** Promises 20 to 24: terriers given to bundles, holders by turns. */
public final class TerriersTest {
    /** Four in a row to the east, 10 yards apart each, with 4, 5, 6, 7 ridges. */
    private static final String ROW = "bundle 0 0 0 east 4 1 50 0 left 0;bundle 1 60 0 east 5 1 50 0 left 0;"
            + "bundle 2 120 0 east 6 1 50 0 left 0;bundle 3 180 0 east 7 1 50 0 left 0";

    public static void main(String[] args) {
        terrierRefused();
        withoutTerriers();
        byStrips();
        byNeighbours();
        bothWays();
        notToldAnyMore();
        touch();
        likeliest();
        fiveOnEight();
        holder();
        round();
        whose();
        Due.end();
    }

    private static void terrierRefused() {
        BentFurrows x = new BentFurrows();
        int[][] calls = {{-1, 1, 0}, {5, 1, 0}, {5, 31, 32}, {0, -1, 0}, {0, 31, 0}, {0, 1, -1}, {0, 1, 32}, {0, 0, 32}};
        for (int i = 0; i < calls.length; i++) {
            int[] c = calls[i];
            Due.is("terrier " + i, x.terrier(c[0], c[1], c[2]), i < 3 ? Due.UNKNOWN : Due.OUTSIDE);
        }
        Due.is("none is told", x.count(5), 0);
        Due.is("terrier(4, 30, 31)", x.terrier(4, 30, 31), 1);
        Due.is("terrier(0, 1, 0)", x.terrier(0, 1, 0), 1);
        Due.is("two are told", x.count(5), 2);
        Due.is("terrier(0, 0, 0)", x.terrier(0, 0, 0), 1);
        Due.is("terrier(0, 0, 0)", x.terrier(0, 0, 0), 1);
        Due.is("one is told", x.count(5), 1);
    }

    private static void withoutTerriers() {
        BentFurrows x = Due.told(ROW);
        given(x, 1, 0, Due.NONE, Due.NONE, Due.NONE, Due.NONE, Due.NONE);
        Due.is("given(5)", x.given(5), Due.OUTSIDE);
        Due.is("given(-3)", x.given(-3), Due.OUTSIDE);
        x.terrier(3, 20, 0);
        given(x, 0, Due.NONE, Due.NONE, Due.NONE, Due.NONE, Due.NONE, Due.NONE);
    }

    private static void byStrips() {
        BentFurrows x = Due.told(ROW, "slack 1");
        x.terrier(2, 5, 0);
        given(x, 3, 0, Due.NONE, Due.NONE, 1, Due.NONE, Due.NONE);
        x.terrier(4, 5, 0);
        given(x, 6, 1, Due.NONE, Due.NONE, 0, Due.NONE, 1);
        Due.tell(x, "slack 0");
        given(x, 0, Due.NONE, Due.NONE, Due.NONE, Due.NONE, Due.NONE, Due.NONE);
        x.terrier(4, 7, 0);
        given(x, 1, 0, Due.NONE, Due.NONE, 1, Due.NONE, 3);
        Due.tell(x, "slack 99");
        given(x, 12, 0, Due.NONE, Due.NONE, 1, Due.NONE, 3);
    }

    private static void byNeighbours() {
        BentFurrows x = Due.told(ROW, "slack 99");
        x.terrier(0, 5, 0);
        x.terrier(1, 5, 0);
        x.terrier(2, 5, 0);
        Due.is("no neighbours", x.given(-1), 24);
        x.terrier(1, 5, 1 | 4);
        Due.is("1 between 0 and 2", x.given(-1), 4);
        x.terrier(0, 5, 2 | 4);
        Due.is("three that all touch", x.given(-1), 0);
        x.terrier(3, 5, 31);
        Due.is("four that all touch", x.given(-1), 0);
        x.terrier(3, 0, 31);
        x.terrier(0, 5, 2);
        Due.is("1 between again", x.given(-1), 4);
    }

    /** What is told last of two holds for both. */
    private static void bothWays() {
        BentFurrows x = Due.told(ROW, "slack 99");
        x.terrier(0, 5, 2);
        x.terrier(1, 5, 0);
        Due.is("the later one says: not beside", x.given(-1), 12);
        x.terrier(1, 5, 1);
        Due.is("beside", x.given(-1), 6);
        x.terrier(0, 5, 1);
        Due.is("bits of itself do not count", x.given(-1), 12);
        x.terrier(0, 5, 3);
        Due.is("beside again", x.given(-1), 6);
        x.terrier(0, 5, 2 | 16);
        Due.is("one that is not told does not count", x.given(-1), 6);
        x.terrier(4, 5, 0);
        Due.is("told: beside none", x.given(-1), 12);
        x.terrier(0, 5, 2 | 16);
        Due.is("beside both", x.given(-1), 4);
    }

    private static void notToldAnyMore() {
        BentFurrows x = Due.told(ROW, "slack 99");
        x.terrier(0, 5, 2);
        x.terrier(1, 5, 1);
        x.terrier(1, 0, 1);
        given(x, 4, 0, 1, Due.NONE, Due.NONE, Due.NONE, Due.NONE);
        x.terrier(1, 5, 0);
        Due.is("beside none when told again", x.given(-1), 12);
    }

    private static void touch() {
        BentFurrows x = Due.told("slack 99;bundle 0 100 100 east 10 1 10 0 left 0");
        x.terrier(0, 1, 2);
        x.terrier(1, 1, 1);
        int[][] froms = {
            {130, 130, 1}, {131, 130, 0}, {130, 131, 0}, {70, 70, 1}, {69, 70, 0}, {70, 69, 0}, {100, 100, 1},
            {105, 130, 1}, {105, 131, 0}, {130, 95, 1}, {131, 95, 0},
        };
        for (int[] f : froms) {
            Due.tell(x, "bundle 1 " + f[0] + " " + f[1] + " north 10 1 10 0 left 0");
            Due.is("touch at " + f[0] + ", " + f[1], x.given(-1), 2 * f[2]);
        }
        Due.tell(x, "gap 0;bundle 1 110 110 north 10 1 10 0 left 0");
        Due.is("corner to corner", x.given(-1), 2);
        Due.tell(x, "bundle 1 111 110 north 10 1 10 0 left 0");
        Due.is("a yard between", x.given(-1), 0);
    }

    private static void likeliest() {
        BentFurrows x = Due.told(ROW, "slack 99");
        x.terrier(1, 7, 0);
        x.terrier(3, 4, 0);
        given(x, 12, 0, Due.NONE, 3, Due.NONE, 0, Due.NONE);
        x.terrier(1, 30, 0);
        x.terrier(3, 30, 0);
        given(x, 12, 47, Due.NONE, 2, Due.NONE, 3, Due.NONE);
        x.terrier(3, 30, 2);
        given(x, 6, 47, Due.NONE, 2, Due.NONE, 3, Due.NONE);
    }

    private static void fiveOnEight() {
        BentFurrows x = new BentFurrows();
        for (int bundle = 0; bundle < 8; bundle++) {
            Due.tell(x, "bundle " + bundle + " 0 0 east " + (bundle + 1) + " 1 5 0 left 0");
        }
        Due.tell(x, "slack 99");
        for (int terrier = 0; terrier < 5; terrier++) {
            x.terrier(terrier, 8 - terrier, 31);
        }
        given(x, 8 * 7 * 6 * 5 * 4, 0, 7, 6, 5, 4, 3);
    }

    private static void given(BentFurrows x, int ways, int differences, int... bundles) {
        Due.is("given(-1)", x.given(-1), ways);
        Due.is("given(-2)", x.given(-2), differences);
        for (int terrier = 0; terrier < bundles.length; terrier++) {
            Due.is("given(" + terrier + ")", x.given(terrier), bundles[terrier]);
        }
    }

    private static void holder() {
        BentFurrows x = new BentFurrows();
        for (int strip = 0; strip < 30; strip++) {
            Due.is("holder(" + strip + ", 0)", x.holder(strip, 0), Due.NONE);
            Due.is("holder(" + strip + ", 9)", x.holder(strip, 9), 0);
            Due.is("holder(" + strip + ", NONE)", x.holder(strip, -1), 9);
            Due.is("holder(" + strip + ", NONE)", x.holder(strip, -1), Due.NONE);
        }
        Due.is("holder(30, 0)", x.holder(30, 0), Due.OUTSIDE);
        Due.is("holder(-1, 0)", x.holder(-1, 0), Due.OUTSIDE);
        Due.is("holder(0, 10)", x.holder(0, 10), Due.OUTSIDE);
        Due.is("holder(0, -2)", x.holder(0, -2), Due.OUTSIDE);
        Due.is("nothing changed", x.holder(0, -1), Due.NONE);
    }

    private static void round() {
        BentFurrows x = new BentFurrows();
        Due.is("none told", x.round(), 1);
        x.holder(7, 3);
        Due.is("one told", x.round(), 1);
        x.holder(29, 3);
        Due.is("two alike", x.round(), 1);
        x.holder(0, 4);
        Due.is("7 and 29 apart do not do", x.round(), 2);
        x.holder(2, 5);
        Due.is("nor 2, nor 27 as a multiple of 3", x.round(), 4);
        x.holder(3, 6);
        Due.is("nor 4, nor 5", x.round(), 6);
        BentFurrows y = new BentFurrows();
        for (int strip = 0; strip < 29; strip++) {
            y.holder(strip, 1);
        }
        Due.is("all alike", y.round(), 1);
        y.holder(29, 2);
        Due.is("but the last", y.round(), 30);
        y.holder(0, -1);
        Due.is("without the first", y.round(), 29);
        BentFurrows z = new BentFurrows();
        z.holder(0, 1);
        z.holder(6, 2);
        Due.is("multiples count", z.round(), 4);
    }

    private static void whose() {
        BentFurrows x = new BentFurrows();
        Due.is("none told", x.whose(99), Due.NONE);
        x.holder(29, 0);
        Due.is("round 1", x.whose(0), 0);
        Due.is("round 1", x.whose(99), 0);
        x.holder(28, 7);
        Due.is("round 2", x.whose(0), 7);
        Due.is("round 2", x.whose(99), 0);
        x.holder(26, 0);
        x.holder(25, 7);
        Due.is("round()", x.round(), 3);
        Due.is("whose(98)", x.whose(98), 0);
        Due.is("whose(97)", x.whose(97), 7);
        Due.is("whose(96)", x.whose(96), Due.NONE);
        Due.is("whose(100)", x.whose(100), Due.OUTSIDE);
        Due.is("whose(-1)", x.whose(-1), Due.OUTSIDE);
    }
}
