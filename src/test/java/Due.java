/** What all tests share: rows of calls with the answer that is due, and texts told to an object. */
final class Due {
    static final int NONE = BentFurrows.NONE;
    static final int UNKNOWN = BentFurrows.UNKNOWN;
    static final int OUTSIDE = BentFurrows.OUTSIDE;
    static final int NOT = BentFurrows.NOT;
    static final int FULL = BentFurrows.FULL;

    private static int rows;
    private static int wrong;

    private Due() {
    }

    static void is(String call, long got, long want) {
        rows++;
        if (got != want) {
            wrong++;
            System.out.println(call + " answered " + got + ", due is " + want);
        }
    }

    /** Writes a text, eight bytes a call; answers what the last call did. */
    static int write(BentFurrows x, String text) {
        int answer = x.count(4);
        for (int from = 0; from < text.length(); from += 8) {
            int n = Math.min(8, text.length() - from);
            answer = x.write(packed(text, from, n), n);
        }
        return answer;
    }

    static long packed(String text, int from, int n) {
        long bytes = 0;
        for (int i = 0; i < n; i++) {
            bytes |= (long) (text.charAt(from + i) & 255) << 8 * i;
        }
        return bytes;
    }

    /** Tells lines, as many texts as they need, each of which must be without a fault. */
    static void tell(BentFurrows x, String... lines) {
        for (String line : lines) {
            write(x, line);
            int lineCount = line.split(";", -1).length;
            is("parish() of '" + line + "'", x.parish(), lineCount);
        }
    }

    static BentFurrows told(String... lines) {
        BentFurrows x = new BentFurrows();
        tell(x, lines);
        return x;
    }

    /** The place of the fault of a text on a new object. */
    static void fault(String text, int want) {
        BentFurrows x = new BentFurrows();
        write(x, text);
        is("fault() of '" + text + "'", x.fault(), want);
    }

    static void end() {
        System.out.println(rows + " rows, " + wrong + " wrong");
        if (wrong != 0 || rows == 0) {
            System.exit(1);
        }
    }
}
