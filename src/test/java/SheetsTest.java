/** Promises 26 to 36: sheets, telling, kinds, trace, fault, how many. */
public final class SheetsTest {
    public static void main(String[] args) {
        rows();
        losing();
        puttingAndLanes();
        cells();
        copies();
        telling();
        traceWraps();
        kinds();
        faultOfTheLatest();
        counts();
        Check.end();
    }

    private static void rows() {
        CenturyPosts x = new CenturyPosts();
        Check.due("sheet 4", x.sheet(4, 3, 61), -1);
        Check.due("sheet -1", x.sheet(-1, 0, 1), -1);
        Check.due("lane 3", x.sheet(0, 3, -1), -2);
        Check.due("lane -1", x.sheet(0, -1, 1), -2);
        Check.due("61 cells", x.sheet(0, 0, 61), -2);
        Check.due("no fault", x.fault(), 0);
        Check.due("-1 cells", x.sheet(0, 0, -1), -14);
        Check.due("size", x.fault(), 4);
        Check.due("it has nothing", x.lose(0), 0);
        for (int k = 0; k < 4; k++) {
            Check.due("60 cells", x.sheet(k, k % 3, 60), 1);
            Check.due("no fault", x.fault(), 0);
            for (int i = 0; i < 60; i++) {
                Check.due("0 at first", x.cell(k, i, k % 3), 0);
                x.put(k, i, 5 + k);
            }
        }
        for (int k = 0; k < 4; k++) {
            Check.due("its own cells", x.cell(k, 59, k % 3) * 100 + x.cell(k, 0, k % 3), 505 + 101 * k);
            Check.due("a wrong size", x.sheet(k, 0, -5), -14);
            Check.due("the row stays", x.cell(k, 59, k % 3), 5 + k);
            Check.due("a new row", x.sheet(k, 2, 3), 1);
            Check.due("0 again", x.cell(k, 0, 2), 0);
            Check.due("shorter", x.cell(k, 3, 2), Long.MIN_VALUE);
            Check.due("longer", x.sheet(k, 2, 60), 1);
            Check.due("0 all along", x.cell(k, 59, 2), 0);
            Check.due("a row of none", x.sheet(k, 2, 0), 1);
            Check.due("no cell", x.put(k, 0, 0), -13);
            Check.due("it has a row", x.lose(k), 1);
        }
    }

    private static void losing() {
        CenturyPosts x = new CenturyPosts();
        Check.due("lose 4", x.lose(4), -1);
        Check.due("lose -1", x.lose(-1), -1);
        Check.due("nothing", x.lose(1), 0);
        x.sheet(1, 1, 5);
        Check.due("a row", x.lose(1), 1);
        Check.due("nothing", x.lose(1), 0);
        Check.due("there is nothing", x.put(1, 0, 0), -11);
        Check.due("there is nothing", x.cell(1, 0, 0), Long.MIN_VALUE);
        Check.due("null", x.fault(), 1);
        x.lose(1);
        Check.due("lose names no fault", x.fault(), 1);
        x.lose(9);
        Check.due("lose names no fault", x.fault(), 1);
    }

    private static void puttingAndLanes() {
        CenturyPosts x = new CenturyPosts();
        int[] values = {127, 128, -129, 255, 256, 32767, 32768, -32769, 65536, Integer.MAX_VALUE, Integer.MIN_VALUE};
        for (int lane = 0; lane < 3; lane++) {
            x.sheet(0, lane, 2);
            for (int v : values) {
                Check.due("put", x.put(0, 1, v), 1);
                long want = lane == 0 ? (byte) v : lane == 1 ? (short) v : v;
                Check.due("cut to its lane", x.cell(0, 1, lane), want);
            }
        }
        Check.due("put: sheet", x.put(4, 0, 0), -1);
        Check.due("put: sheet", x.put(-1, 0, 0), -1);
        Check.due("put: nothing", x.put(1, -1, 0), -11);
        Check.due("put: fault", x.fault(), 1);
        Check.due("put: index", x.put(0, -1, 0), -13);
        Check.due("put: index", x.put(0, 2, 0), -13);
        Check.due("put: index", x.put(0, Integer.MAX_VALUE, 0), -13);
        Check.due("put: fault", x.fault(), 3);
    }

    private static void cellFault(CenturyPosts x, int k, int i, int lane, int fault) {
        Check.due("cell(" + k + ", " + i + ", " + lane + ")", x.cell(k, i, lane), Long.MIN_VALUE);
        Check.due("its fault", x.fault(), fault);
    }

    private static void cells() {
        CenturyPosts x = new CenturyPosts();
        x.sheet(2, 1, 3);
        x.put(2, 2, -7);
        Check.due("cell", x.cell(2, 2, 1), -7);
        Check.due("no fault", x.fault(), 0);
        cellFault(x, 2, 9, 0, 2);
        cellFault(x, 4, 0, 0, 0);
        cellFault(x, 2, 9, 2, 2);
        cellFault(x, 2, 0, 3, 0);
        cellFault(x, 0, -1, 0, 1);
        cellFault(x, -1, 0, 3, 0);
        cellFault(x, 2, -1, 1, 3);
        cellFault(x, 2, 3, 1, 3);
        cellFault(x, 2, 0, -1, 0);
    }

    private static void copyIs(CenturyPosts x, int k, int i, int other, int j, int n, int want, int fault) {
        Check.due("copy(" + k + ", " + i + ", " + other + ", " + j + ", " + n + ")", x.copy(k, i, other, j, n), want);
        Check.due("its fault", x.fault(), fault);
    }

    private static void cellsAre(CenturyPosts x, int k, int lane, int... want) {
        for (int i = 0; i < want.length; i++) Check.due("cell " + i + " of " + k, x.cell(k, i, lane), want[i]);
    }

    private static void copies() {
        CenturyPosts x = new CenturyPosts();
        x.sheet(0, 0, 5);
        x.sheet(1, 0, 4);
        x.sheet(2, 1, 4);
        for (int i = 0; i < 5; i++) x.put(0, i, i + 1);
        copyIs(x, 0, 1, 1, 2, 2, 2, 0);
        cellsAre(x, 1, 0, 0, 0, 2, 3);
        copyIs(x, 0, 0, 0, 1, 4, 4, 0);
        cellsAre(x, 0, 0, 1, 1, 2, 3, 4);
        copyIs(x, 0, 1, 0, 0, 4, 4, 0);
        cellsAre(x, 0, 0, 1, 2, 3, 4, 4);
        copyIs(x, 0, 5, 1, 4, 0, 0, 0);
        copyIs(x, 4, 0, 0, 0, 0, -1, 0);
        copyIs(x, 0, 0, -1, 0, 0, -1, 0);
        copyIs(x, 3, 0, 4, 0, 0, -1, 0);
        copyIs(x, 3, -1, 0, 0, 0, -11, 1);
        copyIs(x, 2, -1, 3, 0, 0, -11, 1);
        copyIs(x, 0, -1, 2, 0, 0, -12, 2);
        copyIs(x, 0, -1, 1, 0, 0, -13, 3);
        copyIs(x, 0, 0, 1, -1, 0, -13, 3);
        copyIs(x, 0, 0, 1, 0, -1, -13, 3);
        copyIs(x, 0, 6, 1, 0, 0, -13, 3);
        copyIs(x, 0, 0, 1, 5, 0, -13, 3);
        copyIs(x, 0, 0, 1, 0, 5, -13, 3);
        copyIs(x, 1, 0, 0, 0, 5, -13, 3);
        copyIs(x, 0, 1, 0, 1, Integer.MAX_VALUE, -13, 3);
        copyIs(x, 0, Integer.MAX_VALUE, 1, Integer.MAX_VALUE, Integer.MAX_VALUE, -13, 3);
        cellsAre(x, 0, 0, 1, 2, 3, 4, 4);
        cellsAre(x, 1, 0, 0, 0, 2, 3);
    }

    private static int traceOf(int... numbers) {
        int trace = 0;
        for (int number : numbers) trace = 31 * trace + number;
        return trace;
    }

    private static void telling() {
        CenturyPosts x = Check.with("c1;d0017;h0018;e0019");
        Check.due("a dreamer", x.tell(0), 7);
        Check.due("his trace", x.trace(), traceOf(1));
        Check.due("a heavy one", x.tell(1), 108);
        Check.due("his trace", x.trace(), traceOf(1, 2, 1));
        Check.due("an enchanted one", x.tell(2), 118);
        Check.due("his trace", x.trace(), traceOf(1, 2, 1, 3, 2, 1, 1));
        Check.due("tell 3", x.tell(3), -1);
        Check.due("tell -1", x.tell(-1), -1);
        Check.due("rouse 3", x.rouse(3), -1);
        Check.due("rouse -1", x.rouse(-1), -1);
        Check.due("no trace of refusals", x.trace(), traceOf(1, 2, 1, 3, 2, 1, 1));
        x = Check.with("c1;d0017;h0018;e0019");
        Check.due("rouse a dreamer", x.rouse(0), 0);
        Check.due("rouse a heavy one", x.rouse(1), 1);
        Check.due("their trace", x.trace(), traceOf(4, 4));
        Check.due("rouse an enchanted one", x.rouse(2), 70);
        Check.due("his trace", x.trace(), traceOf(4, 4, 5));
    }

    private static void traceWraps() {
        CenturyPosts x = Check.with("c1;d0017;h0018;e0019");
        int trace = 0;
        for (int k = 0; k < 50; k++) {
            x.rouse(0);
            trace = 31 * trace + 4;
            Check.due("it wraps", x.trace(), trace);
        }
    }

    private static void kinds() {
        CenturyPosts x = Check.with("c1;d0017;h0018;e0019");
        for (int p = 0; p < 3; p++) {
            for (int kind = 0; kind < 3; kind++) {
                Check.due("as(" + p + ", " + kind + ")", x.as(p, kind), kind <= p ? 1 : -12);
                Check.due("its fault", x.fault(), kind <= p ? 0 : 2);
            }
            Check.due("as: kind", x.as(p, 3), -2);
            Check.due("as: kind", x.as(p, -1), -2);
        }
        Check.due("as: person", x.as(3, 3), -1);
        Check.due("as: person", x.as(-1, 0), -1);
    }

    private static void faultOfTheLatest() {
        CenturyPosts x = Check.with("c1;d0017;h0018;e0019");
        x.put(0, 0, 0);
        Check.due("null", x.fault(), 1);
        Check.due("asking changes nothing", x.fault(), 1);
        x.tell(0);
        x.rouse(9);
        x.law(9);
        x.will(9, 9, 9);
        x.burn(9);
        x.many(9);
        x.help(9);
        x.named(9, 9);
        x.lose(0);
        x.odds(9, 9);
        Check.due("calls that name none", x.fault(), 1);
        x.put(9, 0, 0);
        Check.due("put refused", x.fault(), 0);
        x.as(0, 2);
        x.as(0, 9);
        Check.due("as refused", x.fault(), 0);
        x.as(0, 2);
        x.sheet(9, 0, 0);
        Check.due("sheet refused", x.fault(), 0);
        x.as(0, 2);
        x.copy(9, 0, 0, 0, 0);
        Check.due("copy refused", x.fault(), 0);
        x.as(0, 2);
        x.cell(9, 0, 0);
        Check.due("cell refused", x.fault(), 0);
        x.as(0, 2);
        x.land(9, 0, 0, 0);
        Check.due("land refused", x.fault(), 0);
        x.as(0, 2);
        x.wills(9, 0, 0, 0);
        Check.due("wills refused", x.fault(), 0);
        x.as(0, 2);
        x.land(3, 0, 0, 3);
        Check.due("a wrong text is no fault", x.fault(), 0);
    }

    private static void counts() {
        CenturyPosts x = Check.with("c3;d0017;h0018;e0019;d0011");
        x.law(2);
        x.will(0, 0, 0);
        for (int k = 0; k < 5; k++) x.reading(0, 0, 0);
        int[] want = {4, 3, 1, 5, 2};
        for (int what = 0; what < 5; what++) Check.due("many " + what, x.many(what), want[what]);
        Check.due("many 5", x.many(5), -2);
        Check.due("many -1", x.many(-1), -2);
    }
}
