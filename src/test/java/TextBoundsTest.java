/** The bounds that "Terms" and the promises 1 to 7 and 28 name: the text, its numbers, its faults, what is told. */
public final class TextBoundsTest {
    private static final int[] FAR = {Integer.MIN_VALUE, Integer.MAX_VALUE};
    private static final String EIGHT_LINES = "gap 1;gap 2;gap 3;gap 4;gap 5;gap 6;gap 7;gap 8";

    public static void main(String[] args) {
        newObjectIsEmpty();
        newObjectsShareNothing();
        fiveHundredAndTwelveCalls();
        slackAndGapAtFirst();
        writeTakesOneToEight();
        writeTakesTheLowBytesFirst();
        writeUpToTwoHundred();
        writeThatDoesNotFit();
        eraseOfEmptyAndFull();
        faultOfEmpty();
        nothingOfTextsAhead();
        everyByteAlone();
        everyByteBehindAWord();
        everyByteBehindANumber();
        numbersOfEachLine();
        wordsOfEachLine();
        kindsOfLines();
        numbersNotBelowTheOneAhead();
        thingsUnlike();
        theFirstOfSeveralFaults();
        theEndTooSoon();
        blanks();
        oneToEightLines();
        parishRefused();
        parishOfTwoHundredBytes();
        eachNumberOfEachLine();
        linesInTheirOrder();
        bundleNumbers();
        bundleParts();
        leastAndGreatestBundle();
        coversNumbers();
        coversLeastAndMost();
        oneToldKeepsAllOthers();
        countNumbers();
        countEmptyAndFull();
        Due.end();
    }

    // ---- promise 1

    private static void newObjectIsEmpty() {
        BentFurrows x = new BentFurrows();
        int[] counts = {0, 0, 0, 0, 0, 0, 0, 2, 20};
        for (int what = 0; what < 9; what++) {
            Due.is("new: count(" + what + ")", x.count(what), counts[what]);
        }
        for (int thing = 0; thing < 14; thing++) {
            Due.is("new: covers(" + thing + ", 0)", x.covers(thing, 0), Due.UNKNOWN);
            Due.is("new: span(" + thing + ", 0)", x.span(thing, 0), Due.UNKNOWN);
            Due.is("new: over(" + thing + ", 0)", x.over(thing, 0), Due.UNKNOWN);
        }
        for (int bundle = 0; bundle < 8; bundle++) {
            Due.is("new: bundle(" + bundle + ", 0)", x.bundle(bundle, 0), Due.UNKNOWN);
            Due.is("new: teams(" + bundle + ")", x.teams(bundle), Due.UNKNOWN);
            Due.is("new: field(" + bundle + ", 0)", x.field(bundle, 0), Due.UNKNOWN);
            Due.is("new: joined(" + bundle + ", 0)", x.joined(bundle, 0), Due.UNKNOWN);
            Due.is("new: shows(0, " + bundle + ")", x.shows(0, bundle), Due.UNKNOWN);
        }
        Due.is("new: ring()", x.ring(), 0);
        Due.is("new: stack(NONE)", x.stack(-1), 0);
        Due.is("new: stack(0)", x.stack(0), Due.NONE);
        Due.is("new: fields()", x.fields(), 0);
        Due.is("new: ploughed(2000, 1)", x.ploughed(2000, 1), 0);
        Due.is("new: peak(0)", x.peak(0), 0);
        Due.is("new: peak(1)", x.peak(1), 0);
        Due.is("new: given(NONE)", x.given(-1), 1);
        Due.is("new: round()", x.round(), 1);
        Due.is("new: whose(0)", x.whose(0), Due.NONE);
        Due.is("new: seen(0)", x.seen(0), 0);
        Due.is("new: seen(1)", x.seen(1), 0);
        Due.is("new: seen(2)", x.seen(2), 0);
    }

    private static void newObjectsShareNothing() {
        BentFurrows x = Due.told("bundle 0 0 0 east 1 1 1 0 left 0;mark 8 0 0 1 1;over 8 0;team 1 0 0 5 5;slack 9;gap 9");
        x.terrier(0, 1, 0);
        x.holder(0, 0);
        x.picture(0, 0, 0);
        Due.write(x, "gap");
        newObjectIsEmpty();
        Due.is("the other keeps its own", x.count(0) + x.count(1) + x.count(2) + x.count(3), 4);
        Due.is("the other keeps its text", x.count(4), 3);
    }

    /** "An object is used for at most 512 calls after it has been made": the last is as good as the first. */
    private static void fiveHundredAndTwelveCalls() {
        BentFurrows x = new BentFurrows();
        int made = 0;
        for (int round = 1; round <= 102; round++) {
            Due.is("write", x.write(Due.packed("gap 57", 0, 6), 6), 6);
            Due.is("parish()", x.parish(), 1);
            Due.is("holder", x.holder(round % 30, round % 10), round <= 30 ? Due.NONE : (round - 30) % 10);
            Due.is("picture", x.picture(0, 0, 0), round <= 8 ? round : Due.FULL);
            Due.is("terrier", x.terrier(round % 5, 1, 31), 1);
            made += 5;
        }
        Due.is("write", x.write(Due.packed("gap 58", 0, 6), 6), 6);
        Due.is("the calls", made + 2, 512);
        Due.is("the 512th", x.parish(), 1);
    }

    /** "SLACK is 0 .. 99 (2 at first), GAP 0 .. 99 (20)": by what they do. */
    private static void slackAndGapAtFirst() {
        String one = "bundle 0 0 100 east 9 9 50 0 left 0";
        Due.is("gap 20", Due.told(one, "bundle 1 70 100 east 9 9 50 0 left 0").joined(0, 1), 1);
        Due.is("gap 21", Due.told(one, "bundle 1 71 100 east 9 9 50 0 left 0").joined(0, 1), 0);
        Due.is("slack 2", Due.told(one, "bundle 1 50 102 east 9 9 50 0 left 0").joined(0, 1), 1);
        Due.is("slack 3", Due.told(one, "bundle 1 50 103 east 9 9 50 0 left 0").joined(0, 1), 0);
        for (int bound : new int[] {0, 99}) {
            BentFurrows x = Due.told("slack " + bound + ";gap " + (99 - bound));
            Due.is("slack " + bound, x.count(7), bound);
            Due.is("gap " + (99 - bound), x.count(8), 99 - bound);
        }
    }

    // ---- promises 2 to 4

    private static void writeTakesOneToEight() {
        for (int n = 1; n <= 8; n++) {
            BentFurrows x = new BentFurrows();
            Due.is("write(blanks, " + n + ")", x.write(0x2020202020202020L, n), n);
            Due.is("count(4)", x.count(4), n);
        }
        for (int n : new int[] {0, 9, -1, 16, 64, 256 + 1, FAR[0], FAR[0] + 1, FAR[1]}) {
            BentFurrows x = new BentFurrows();
            x.write(32, 1);
            Due.is("write(.., " + n + ")", x.write(-1, n), Due.OUTSIDE);
            Due.is("count(4) behind it", x.count(4), 1);
            Due.is("fault() behind it", x.fault(), 1);
        }
    }

    private static void writeTakesTheLowBytesFirst() {
        for (int n = 1; n <= 8; n++) {
            String text = "slack 42".substring(8 - n);
            String ahead = "slack 42".substring(0, 8 - n);
            // what stands in the bytes behind the n-th does not count, the sign of the long neither
            for (long rest : new long[] {0L, -1L, 0x3b3b3b3b3b3b3b3bL}) {
                BentFurrows x = new BentFurrows();
                Due.write(x, ahead);
                long low = n == 8 ? 0 : rest << 8 * n;
                Due.is("write of '" + text + "'", x.write(Due.packed(text, 0, n) | low, n), 8);
                Due.is("fault()", x.fault(), Due.NONE);
                Due.is("parish()", x.parish(), 1);
                Due.is("slack", x.count(7), 42);
            }
        }
        for (long bytes : new long[] {Long.MIN_VALUE, Long.MAX_VALUE, -1L, 0L}) {
            BentFurrows x = new BentFurrows();
            Due.is("write(" + bytes + ", 8)", x.write(bytes, 8), 8);
            Due.is("fault() of " + bytes, x.fault(), 0);
        }
        BentFurrows x = new BentFurrows();
        x.write(0x2020202020202020L | Long.MIN_VALUE, 8);
        Due.is("the eighth byte is not a blank", x.fault(), 7);
    }

    /** "THE TEXT is a row of bytes, 200 at most." */
    private static void writeUpToTwoHundred() {
        for (int n = 1; n <= 8; n++) {
            BentFurrows x = blanks(200 - n);
            Due.is("the last " + n, x.write(0x2020202020202020L, n), 200);
            Due.is("one beyond", x.write(32, 1), Due.FULL);
            Due.is("eight beyond", x.write(32, 8), Due.FULL);
            Due.is("count(4)", x.count(4), 200);
            Due.is("fault()", x.fault(), 200);
        }
    }

    private static void writeThatDoesNotFit() {
        for (int n = 2; n <= 8; n++) {
            BentFurrows x = blanks(201 - n);
            Due.is("one byte too many of " + n, x.write(-1, n), Due.FULL);
            Due.is("count(4)", x.count(4), 201 - n);
            Due.is("no byte of it is kept", x.fault(), 201 - n);
            Due.is("OUTSIDE ahead of FULL", x.write(-1, 9), Due.OUTSIDE);
            Due.is("OUTSIDE ahead of FULL", x.write(-1, 0), Due.OUTSIDE);
            Due.is("what fits still does", x.write(32, 1), 202 - n);
        }
    }

    private static BentFurrows blanks(int n) {
        BentFurrows x = new BentFurrows();
        Due.write(x, " ".repeat(n));
        return x;
    }

    private static void eraseOfEmptyAndFull() {
        BentFurrows x = blanks(200);
        Due.is("erase() of full", x.erase(), 200);
        Due.is("count(4)", x.count(4), 0);
        Due.is("erase() of empty", x.erase(), 0);
        Due.is("fault() of empty", x.fault(), 0);
        Due.is("write again", x.write(32, 8), 8);
        Due.is("erase()", x.erase(), 8);
        Due.write(x, "gap 3");
        Due.is("nothing of what was erased", x.parish(), 1);
        Due.is("erase() behind parish()", x.erase(), 0);
    }

    private static void faultOfEmpty() {
        BentFurrows x = new BentFurrows();
        Due.is("fault() of empty: the length", x.fault(), 0);
        Due.is("parish() of empty", x.parish(), Due.NOT);
        Due.write(x, "gap 3");
        Due.is("no fault", x.fault(), Due.NONE);
        x.parish();
        Due.is("empty again", x.fault(), 0);
    }

    /** A text that ends too soon does not go on with what stood there ahead of it. */
    private static void nothingOfTextsAhead() {
        for (String sign : new String[] {"0", "9", "a", ";", " ", "!"}) {
            for (String text : new String[] {"", " ", "gap", "gap ", "gap   ", "gap 5;", "gap 5; ", "year 0 0 ", "year 0 0", "bundle 0 0 0 ", "x"}) {
                BentFurrows x = new BentFurrows();
                Due.write(x, sign.repeat(200));
                Due.is("erase()", x.erase(), 200);
                Due.write(x, text);
                Due.is("fault() of '" + text + "' behind " + sign, x.fault(), text.equals("x") ? 0 : text.length());
                Due.is("parish()", x.parish(), Due.NOT);
            }
            BentFurrows x = new BentFurrows();
            Due.write(x, sign.repeat(200));
            x.erase();
            Due.tell(x, "gap 5");
            Due.is("gap", x.count(8), 5);
        }
        BentFurrows x = Due.told("gap   7 ;gap   8");
        for (int n = 0; n < 7; n++) {
            Due.write(x, "gap   7".substring(0, n));
            Due.is("fault() behind parish()", x.fault(), n == 0 || n > 2 ? n : 0);
            x.erase();
        }
    }

    private static void everyByteAlone() {
        for (int sign = 0; sign < 256; sign++) {
            Due.fault("" + (char) sign, sign == ' ' ? 1 : 0);
        }
    }

    private static void everyByteBehindAWord() {
        for (int sign = 0; sign < 256; sign++) {
            boolean letter = sign >= 'a' && sign <= 'z';
            boolean digit = sign >= '0' && sign <= '9';
            Due.fault("gap" + (char) sign + " 5", letter ? 0 : digit ? 5 : sign == ' ' ? Due.NONE : 3);
        }
    }

    private static void everyByteBehindANumber() {
        for (int sign = 0; sign < 256; sign++) {
            boolean fits = sign == ' ' || sign >= '0' && sign <= '9';
            Due.fault("gap 5" + (char) sign, fits ? Due.NONE : sign == ';' ? 6 : 5);
        }
    }

    // ---- numbers and words of THE TEXT

    private static void numbersOfEachLine() {
        String[] bundle = {"bundle", "0", "0", "0", "east", "1", "1", "1", "0", "left", "0"};
        int[][] bundleBounds = {
            {0, 7}, {0, 999}, {0, 999}, null, {1, 30}, {1, 20}, {1, 500}, {0, 40}, null, {0, 60},
        };
        line(bundle, bundleBounds);
        line(new String[] {"mark", "8", "0", "0", "1", "1"}, new int[][] {{8, 13}, {0, 999}, {0, 999}, {1, 999}, {1, 999}});
        line(new String[] {"year", "0", "0", "2000"}, new int[][] {{0, 13}, {0, 2000}, {0, 2000}});
        line(new String[] {"over", "5", "9"}, new int[][] {{0, 13}, {0, 13}});
        line(new String[] {"team", "1", "0", "40", "0", "2000"}, new int[][] {{1, 12}, {0, 40}, {0, 40}, {0, 2000}, {0, 2000}});
        line(new String[] {"slack", "0"}, new int[][] {{0, 99}});
        line(new String[] {"gap", "0"}, new int[][] {{0, 99}});
    }

    private static void line(String[] tokens, int[][] bounds) {
        for (int slot = 1; slot < tokens.length; slot++) {
            int[] bound = bounds[slot - 1];
            if (bound == null) {
                continue;
            }
            stands(tokens, slot, "" + bound[0]);
            stands(tokens, slot, "" + bound[1]);
            stands(tokens, slot, String.format("%04d", bound[0]));
            stands(tokens, slot, String.format("%04d", bound[1]));
            falls(tokens, slot, "" + (bound[1] + 1));
            falls(tokens, slot, "9999");
            falls(tokens, slot, "10000");
            falls(tokens, slot, String.format("%05d", bound[0]));
            falls(tokens, slot, String.format("%05d", bound[1]));
            falls(tokens, slot, "" + Integer.MAX_VALUE);
            falls(tokens, slot, "4294967296");
            falls(tokens, slot, "4294967297");
            falls(tokens, slot, "18446744073709551617");
            falls(tokens, slot, "-" + bound[0]);
            falls(tokens, slot, "+" + bound[0]);
            falls(tokens, slot, "x");
            falls(tokens, slot, "east");
            falls(tokens, slot, ";");
            if (bound[0] > 0) {
                falls(tokens, slot, "" + (bound[0] - 1));
                falls(tokens, slot, "0000");
            }
        }
    }

    private static String ahead(String[] tokens, int slot) {
        StringBuilder ahead = new StringBuilder();
        for (int i = 0; i < slot; i++) {
            ahead.append(tokens[i]).append(' ');
        }
        return ahead.toString();
    }

    private static String behind(String[] tokens, int slot) {
        StringBuilder behind = new StringBuilder();
        for (int i = slot + 1; i < tokens.length; i++) {
            behind.append(' ').append(tokens[i]);
        }
        return behind.toString();
    }

    private static void stands(String[] tokens, int slot, String token) {
        String text = ahead(tokens, slot) + token + behind(tokens, slot);
        Due.fault(text, Due.NONE);
        Due.fault("gap 1; " + text + " ", Due.NONE);
    }

    /** The fault is where the token begins, whatever stands ahead of it and behind it. */
    private static void falls(String[] tokens, int slot, String token) {
        String ahead = ahead(tokens, slot);
        Due.fault(ahead + token + behind(tokens, slot), ahead.length());
        Due.fault(ahead + token, ahead.length());
        Due.fault(ahead + "  " + token + " !", ahead.length() + 2);
        Due.fault("gap 1;" + ahead + token + behind(tokens, slot), 6 + ahead.length());
    }

    private static void wordsOfEachLine() {
        String[] way = {"bundle", "0", "0", "0", "east", "1", "1", "1", "0", "left", "0"};
        stands(way, 4, "east");
        stands(way, 4, "north");
        stands(way, 9, "left");
        stands(way, 9, "right");
        for (String word : new String[] {"eas", "easte", "nort", "norths", "e", "n", "west", "south", "left", "right",
            "East", "EAST", "0", "1", ";", "gap", "_east", "ast"}) {
            falls(way, 4, word);
        }
        for (String word : new String[] {"lef", "lefts", "righ", "rights", "l", "r", "east", "north", "Left", "0", "1", ";", "up"}) {
            falls(way, 9, word);
        }
        // what begins as it must, and is another token then
        Due.fault("bundle 0 0 0 eaSt 1 1 1 0 left 0", 13);
        Due.fault("bundle 0 0 0 east! 1 1 1 0 left 0", 17);
    }

    private static void kindsOfLines() {
        for (String kind : new String[] {"bundle", "mark", "year", "over", "team", "slack", "gap"}) {
            Due.fault(kind, kind.length());
            Due.fault(kind + "s 0", 0);
            Due.fault("x" + kind + " 0", 0);
            Due.fault(kind.substring(1) + " 0", 0);
            Due.fault(kind.substring(0, kind.length() - 1) + " 0", 0);
            Due.fault(kind.toUpperCase() + " 0", 0);
            Due.fault("gap 0 " + kind, 6);
            Due.fault("gap 0;" + kind, 6 + kind.length());
            Due.fault(kind + " " + kind, kind.length() + 1);
        }
        for (String word : new String[] {"0", "9999", "east", "left", "picture", "terrier", ".", "bundle0x", "a"}) {
            Due.fault(word, word.equals("bundle0x") ? 7 : 0);
        }
    }

    /** "Z not below Y, B not below A": at it, one below, one above, both ends. */
    private static void numbersNotBelowTheOneAhead() {
        for (int ahead : new int[] {1, 1000, 2000}) {
            notBelow("year 13 ", ahead, 2000, "");
            notBelow("team 12 0 0 ", ahead, 2000, "");
        }
        for (int ahead : new int[] {1, 20, 40}) {
            notBelow("team 12 ", ahead, 40, " 0 0");
        }
        // the number ahead is the one of its own kind, not another one
        Due.fault("team 12 9 9 3 3", Due.NONE);
        Due.fault("team 12 0 40 0 0", Due.NONE);
        Due.fault("year 13 0 0", Due.NONE);
        Due.fault("mark 13 9 8 7 6", Due.NONE);
    }

    private static void notBelow(String start, int ahead, int most, String behind) {
        String two = start + ahead + " ";
        Due.fault(two + ahead + behind, Due.NONE);
        Due.fault(two + String.format("%04d", ahead) + behind, Due.NONE);
        Due.fault(two + most + behind, Due.NONE);
        Due.fault(two + (ahead - 1) + behind, two.length());
        Due.fault(two + "0" + behind, two.length());
        Due.fault(two + (most + 1) + behind, two.length());
    }

    /** "T, U THINGS' numbers 0 .. 13, told or not, unlike." */
    private static void thingsUnlike() {
        for (int upper = 0; upper < 14; upper++) {
            String start = "over " + upper + " ";
            for (int lower = 0; lower < 14; lower++) {
                Due.fault(start + lower, upper == lower ? start.length() : Due.NONE);
                Due.fault(start + "00" + lower, upper == lower ? start.length() : Due.NONE);
            }
            Due.fault(start + 14, start.length());
        }
    }

    private static void theFirstOfSeveralFaults() {
        Due.fault("gap 100;slack 100", 4);
        Due.fault("gap 1;slack 100;gap 100", 12);
        Due.fault("bundle 8 1000 1000 west 31 21 501 41 up 61", 7);
        Due.fault("bundle 7 1000 1000 west 31 21 501 41 up 61", 9);
        Due.fault("bundle 7 999 1000 west 31 21 501 41 up 61", 13);
        Due.fault("bundle 7 999 999 west 31 21 501 41 up 61", 17);
        Due.fault("bundle 7 999 999 east 31 21 501 41 up 61", 22);
        Due.fault("bundle 7 999 999 east 30 21 501 41 up 61", 25);
        Due.fault("bundle 7 999 999 east 30 20 501 41 up 61", 28);
        Due.fault("bundle 7 999 999 east 30 20 500 41 up 61", 32);
        Due.fault("bundle 7 999 999 east 30 20 500 40 up 61", 35);
        Due.fault("bundle 7 999 999 east 30 20 500 40 left 61", 40);
        Due.fault("bundle 7 999 999 east 30 20 500 40 left 60!", 42);
        // a line that comes too many is no worse than a fault ahead of it
        Due.fault("gap 1;gap 2;gap 3;gap 4;gap 5;gap 6;gap 100;gap 8;gap 9", 40);
    }

    /** "or at the end, if it comes too soon": behind each token of each line. */
    private static void theEndTooSoon() {
        for (String line : new String[] {"bundle 7 999 999 east 30 20 500 40 left 60", "mark 13 999 999 999 999", "year 13 0 2000",
            "over 13 0", "team 12 0 40 0 2000", "slack 99", "gap 99"}) {
            Due.fault(line, Due.NONE);
            for (int blank = line.indexOf(' '); blank >= 0; blank = line.indexOf(' ', blank + 1)) {
                Due.fault(line.substring(0, blank), blank);
                Due.fault(line.substring(0, blank + 1), blank + 1);
                Due.fault(line.substring(0, blank) + ";", blank);
                Due.fault("slack 0;" + line.substring(0, blank) + "   ", blank + 11);
            }
            Due.fault(line + ";", line.length() + 1);
            Due.fault(line + " ;  ", line.length() + 4);
            Due.fault(line + " 0", line.length() + 1);
            Due.fault(line + " left", line.length() + 1);
        }
    }

    private static void blanks() {
        Due.fault(" ", 1);
        Due.fault(" ".repeat(200), 200);
        Due.fault(" ".repeat(195) + "gap 5", Due.NONE);
        Due.fault("gap" + " ".repeat(196) + "5", Due.NONE);
        Due.fault("gap 5" + " ".repeat(195), Due.NONE);
        Due.fault("gap" + " ".repeat(197), 200);
        Due.fault("gap 5 ; slack 5", Due.NONE);
        Due.fault("gap 5 5", 6);
        Due.fault("ga p 5", 0);
        for (char other : new char[] {9, 10, 11, 13, 0, 31, 33, 127, 160}) {
            Due.fault("gap" + other + "5", 3);
            Due.fault("gap 5" + other, 5);
        }
    }

    /** "LINES with ; (59) between, 8 at most." */
    private static void oneToEightLines() {
        for (int lines = 1; lines <= 8; lines++) {
            BentFurrows x = new BentFurrows();
            String text = EIGHT_LINES.substring(0, 6 * lines - 1);
            Due.write(x, text);
            Due.is("fault() of " + lines + " lines", x.fault(), Due.NONE);
            Due.is("parish() of " + lines + " lines", x.parish(), lines);
            Due.is("the last one holds", x.count(8), lines);
        }
        for (String ninth : new String[] {"", "gap 9", " ", ";", "x", "100"}) {
            BentFurrows x = new BentFurrows();
            Due.write(x, EIGHT_LINES + ";" + ninth);
            Due.is("fault() of nine lines", x.fault(), 47);
            Due.is("parish() of nine lines", x.parish(), Due.NOT);
            Due.is("no line is done", x.count(8), 20);
        }
        Due.fault(";", 0);
        Due.fault(";;", 0);
        Due.fault("gap 1;;gap 2", 6);
        Due.fault("gap 1,gap 2", 5);
        Due.fault("gap 1 gap 2", 6);
    }

    // ---- promise 5

    private static void parishRefused() {
        for (String fault : new String[] {"gap 100", "gap 5;", "gap 5;slack 3;gap", "gap 5;slack 3;bundle 0 0 0 east 1 1 1 0 left 61"}) {
            BentFurrows x = new BentFurrows();
            Due.write(x, fault);
            int place = x.fault();
            Due.is("parish() of '" + fault + "'", x.parish(), Due.NOT);
            Due.is("parish() again", x.parish(), Due.NOT);
            Due.is("gap", x.count(8), 20);
            Due.is("slack", x.count(7), 2);
            Due.is("bundles", x.count(0), 0);
            Due.is("the text is as long", x.count(4), fault.length());
            Due.is("the fault is where it was", x.fault(), place);
            Due.is("erase()", x.erase(), fault.length());
            Due.write(x, "gap 5");
            Due.is("parish() without a fault", x.parish(), 1);
        }
    }

    private static void parishOfTwoHundredBytes() {
        String line = "bundle 1 0 0 east 1 1 1 0 left 0";
        String text = line + ";" + line.replace(" 1 0 0", " 2 0 0") + ";" + line.replace(" 1 0 0", " 3 0 0") + ";"
                + line.replace(" 1 0 0", " 4 0 0") + ";" + line.replace(" 1 0 0", " 5 0 0") + ";" + "year 5 0 2000;gap 99;slack 99";
        text = text + " ".repeat(199 - text.length());
        BentFurrows x = new BentFurrows();
        Due.is("199 bytes", Due.write(x, text), 199);
        Due.is("parish() of 199", x.parish(), 8);
        Due.is("bundles", x.count(0), 5);
        Due.is("200 bytes", Due.write(x, text.replace("slack 99", " slack 98")), 200);
        Due.is("fault() of 200", x.fault(), Due.NONE);
        Due.is("parish() of 200", x.parish(), 8);
        Due.is("slack", x.count(7), 98);
        Due.is("it is empty then", x.count(4), 0);
        Due.is("200 bytes once more", Due.write(x, " ".repeat(200)), 200);
        Due.is("nothing of the text ahead", x.fault(), 200);
    }

    /** As many of the longest lines as fit, each with numbers of its own, and the others behind a bundle. */
    private static void eachNumberOfEachLine() {
        StringBuilder text = new StringBuilder();
        for (int bundle = 0; bundle < 6; bundle++) {
            int n = bundle + 1;
            text.append(bundle == 0 ? "" : ";").append("bundle " + bundle + " " + n + " 7 east " + n + " 8 9 " + n + " left " + n);
        }
        BentFurrows x = Due.told(text.toString());
        for (int bundle = 0; bundle < 6; bundle++) {
            int n = bundle + 1;
            int[] parts = {n, 7, 0, n, 8, 9, n, 0, n, 72 * n};
            for (int what = 0; what < 10; what++) {
                Due.is("bundle(" + bundle + ", " + what + ")", x.bundle(bundle, what), parts[what]);
            }
        }
        for (String behind : new String[] {"mark 8 0 0 1 1", "year 0 0 0", "over 0 1", "team 1 0 0 0 0", "slack 0", "gap 0"}) {
            BentFurrows y = Due.told("bundle 3 0 0 east 1 1 1 0 right 60;" + behind);
            Due.is("HIGH ahead of " + behind, y.bundle(3, 8), 60);
            Due.is("the side ahead of " + behind, y.bundle(3, 7), 1);
        }
    }

    private static void linesInTheirOrder() {
        BentFurrows x = Due.told("slack 1;gap 1;slack 2;gap 2;slack 99;gap 0;slack 0;gap 99");
        Due.is("slack", x.count(7), 0);
        Due.is("gap", x.count(8), 99);
        x = Due.told("bundle 0 1 1 east 1 1 1 0 left 0;bundle 0 2 2 north 2 2 2 2 right 2;mark 8 1 1 1 1;mark 8 2 2 2 2");
        Due.is("bundle", x.bundle(0, 9), 8);
        Due.is("mark", x.covers(8, 3), 2);
        Due.is("one bundle", x.count(0), 1);
        Due.is("one mark", x.count(1), 1);
        x = Due.told("bundle 0 0 0 east 1 1 1 7 left 0;team 1 7 7 5 5;team 1 7 7 6 9;year 0 0 3;year 0 7 2000");
        Due.is("team and year told last", x.span(0, 0), 7);
        Due.is("team and year told last", x.span(0, 1), 9);
    }

    // ---- promises 6, 7

    private static void bundleNumbers() {
        for (int told = 0; told < 8; told++) {
            BentFurrows x = Due.told("bundle " + told + " 5 0 east 1 1 1 0 left 0");
            for (int bundle = -1; bundle <= 14; bundle++) {
                Due.is("bundle(" + bundle + ", 0)", x.bundle(bundle, 0), bundle == told ? 5 : Due.UNKNOWN);
            }
            for (int far : new int[] {FAR[0], FAR[1], FAR[0] + told, told + 32, told - 32, told + 256}) {
                Due.is("bundle(" + far + ", 0)", x.bundle(far, 0), Due.UNKNOWN);
                Due.is("UNKNOWN ahead of OUTSIDE", x.bundle(far, 10), Due.UNKNOWN);
            }
        }
    }

    private static void bundleParts() {
        BentFurrows x = Due.told("bundle 7 1 2 north 3 4 5 6 right 7");
        int[] parts = {1, 2, 1, 3, 4, 5, 6, 1, 7, 60};
        for (int what = 0; what <= 9; what++) {
            Due.is("bundle(7, " + what + ")", x.bundle(7, what), parts[what]);
        }
        for (int what : new int[] {-1, 10, -2, 32, FAR[0], FAR[1]}) {
            Due.is("bundle(7, " + what + ")", x.bundle(7, what), Due.OUTSIDE);
        }
    }

    private static void leastAndGreatestBundle() {
        BentFurrows x = Due.told("bundle 0 0 0 east 1 1 1 0 left 0;bundle 7 999 999 north 30 20 500 40 right 60");
        int[] least = {0, 0, 0, 1, 1, 1, 0, 0, 0, 1};
        int[] greatest = {999, 999, 1, 30, 20, 500, 40, 1, 60, 300000};
        for (int what = 0; what <= 9; what++) {
            Due.is("bundle(0, " + what + ")", x.bundle(0, what), least[what]);
            Due.is("bundle(7, " + what + ")", x.bundle(7, what), greatest[what]);
        }
    }

    private static void coversNumbers() {
        for (int told = 0; told < 14; told++) {
            BentFurrows x = Due.told(told < 8 ? "bundle " + told + " 5 6 east 7 8 9 0 left 0" : "mark " + told + " 5 6 9 56");
            int[] parts = {5, 6, 9, 56};
            for (int thing = -1; thing <= 15; thing++) {
                for (int what = 0; what < 4; what++) {
                    Due.is("covers(" + thing + ", " + what + ")", x.covers(thing, what), thing == told ? parts[what] : Due.UNKNOWN);
                }
            }
            for (int far : new int[] {FAR[0], FAR[1], told + 32, told - 32}) {
                Due.is("covers(" + far + ", 0)", x.covers(far, 0), Due.UNKNOWN);
                Due.is("UNKNOWN ahead of OUTSIDE", x.covers(far, 4), Due.UNKNOWN);
            }
            for (int what : new int[] {-1, 4, FAR[0], FAR[1]}) {
                Due.is("covers(" + told + ", " + what + ")", x.covers(told, what), Due.OUTSIDE);
            }
        }
    }

    private static void coversLeastAndMost() {
        BentFurrows x = Due.told("bundle 0 999 999 east 30 20 500 0 left 0;bundle 1 999 999 north 30 20 500 0 left 0",
                "bundle 2 0 0 east 1 1 1 0 left 0;mark 8 0 0 1 1;mark 13 999 999 999 999");
        int[][] due = {{0, 999, 999, 500, 600}, {1, 999, 999, 600, 500}, {2, 0, 0, 1, 1}, {8, 0, 0, 1, 1}, {13, 999, 999, 999, 999}};
        for (int[] thing : due) {
            for (int what = 0; what < 4; what++) {
                Due.is("covers(" + thing[0] + ", " + what + ")", x.covers(thing[0], what), thing[what + 1]);
            }
        }
    }

    /** All fourteen told in rising and in falling order, and each of them told anew: no other changes. */
    private static void oneToldKeepsAllOthers() {
        for (int order = 0; order < 2; order++) {
            BentFurrows x = new BentFurrows();
            for (int i = 0; i < 14; i++) {
                Due.tell(x, numbered(order == 0 ? i : 13 - i));
            }
            areNumbered(x);
        }
        for (int anew = 0; anew < 14; anew++) {
            BentFurrows x = new BentFurrows();
            for (int thing = 0; thing < 14; thing++) {
                Due.tell(x, numbered(thing));
            }
            Due.tell(x, numbered(anew));
            areNumbered(x);
        }
    }

    private static String numbered(int thing) {
        int n = thing + 1;
        return thing < 8 ? "bundle " + thing + " " + 30 * n + " " + 31 * n + (n % 2 == 0 ? " east " : " north ") + 2 * n + " " + (n + 2)
                + " " + 40 * n + " " + 3 * n + (n % 4 < 2 ? " left " : " right ") + 5 * n
                : "mark " + thing + " " + 30 * n + " " + 31 * n + " " + 32 * n + " " + 33 * n;
    }

    private static void areNumbered(BentFurrows x) {
        for (int thing = 0; thing < 14; thing++) {
            int n = thing + 1;
            int[] bundle = {30 * n, 31 * n, n % 2, 2 * n, n + 2, 40 * n, 3 * n, n % 4 / 2, 5 * n, 2 * n * (n + 2) * 40 * n};
            int across = 2 * n * (n + 2);
            int[] box = {30 * n, 31 * n, n % 2 == 0 ? 40 * n : across, n % 2 == 0 ? across : 40 * n};
            int[] mark = {30 * n, 31 * n, 32 * n, 33 * n};
            for (int what = 0; what < 10 && thing < 8; what++) {
                Due.is("bundle(" + thing + ", " + what + ")", x.bundle(thing, what), bundle[what]);
            }
            for (int what = 0; what < 4; what++) {
                Due.is("covers(" + thing + ", " + what + ")", x.covers(thing, what), thing < 8 ? box[what] : mark[what]);
            }
        }
    }

    // ---- promise 28

    private static void countNumbers() {
        BentFurrows x = new BentFurrows();
        for (int what : new int[] {-1, 9, 10, -2, 32, 40, FAR[0], FAR[1]}) {
            Due.is("count(" + what + ")", x.count(what), Due.OUTSIDE);
        }
    }

    private static void countEmptyAndFull() {
        BentFurrows x = new BentFurrows();
        for (int thing = 0; thing < 14; thing++) {
            Due.tell(x, thing < 8 ? "bundle " + thing + " 0 0 east 1 1 1 0 left 0" : "mark " + thing + " 0 0 1 1");
            Due.is("bundles", x.count(0), Math.min(8, thing + 1));
            Due.is("marks", x.count(1), Math.max(0, thing - 7));
        }
        for (int team = 1; team <= 12; team++) {
            Due.tell(x, "team " + team + " 0 0 0 0");
            Due.is("teams", x.count(3), team);
        }
        for (int terrier = 0; terrier < 5; terrier++) {
            x.terrier(terrier, 1, 0);
            Due.is("terriers", x.count(5), terrier + 1);
        }
        for (int picture = 1; picture <= 9; picture++) {
            x.picture(0, 0, 0);
            Due.is("pictures", x.count(6), Math.min(8, picture));
        }
        // told anew is not told twice
        Due.tell(x, "bundle 0 0 0 east 1 1 1 0 left 0;mark 13 0 0 1 1;team 12 0 0 0 0");
        x.terrier(0, 30, 0);
        int[] counts = {8, 6, 0, 12, 0, 5, 8, 2, 20};
        for (int what = 0; what < 9; what++) {
            Due.is("count(" + what + ")", x.count(what), counts[what]);
        }
    }
}
