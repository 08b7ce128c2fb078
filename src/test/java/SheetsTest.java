/** Part 5 of the document and promises 26 to 36: sheets, telling, kinds, trace, fault, how many. */
public final class SheetsTest {
    private static final String KINDS = "c1;d0017;h0018;e0019";

    public static void main(String[] args) {
        nothingAtFirst();
        howManyCells();
        zeroAtFirst();
        cutToLanes();
        sheet();
        lose();
        put();
        cell();
        copyWithinOne();
        copy();
        copyRefuses();
        tellingDreamers();
        tellingHeavyOnes();
        tellingEnchantedOnes();
        roused();
        traceWraps();
        tell();
        rouse();
        as();
        trace();
        fault();
        faultOfCallsThatNameNone();
        many();
        Check.end();
    }

    private static void nothingAtFirst() {
        Check.says(0, "SHEETS 0 .. 3 have nothing (at first)");
        CenturyPosts x = new CenturyPosts();
        Check.rows(x, "lose(0|1|2|3) = 0", "put(0|1|2|3, 0, 0) = NULL", "lose(-1|4) = UNKNOWN", "sheet(3, 0, 0) = 1", "lose(0|1|2) = 0", "lose(3) = 1", "lose(3) = 0");
    }

    private static void howManyCells() {
        Check.says(0, "or a row of 0 .. 60 numbers");
        for (int lane = 0; lane < 3; lane++) {
            CenturyPosts x = new CenturyPosts();
            String to = ", " + lane + ")", row = "sheet(0, " + lane + ", ";
            Check.rows(x, row + "60) = 1", "put(0, 0|59, 7) = 1", "put(0, -1|60, 7) = INDEX", "cell(0, 0|59" + to + " = 7", "cell(0, -1|60" + to + " = LOST", "fault() = 3");
            Check.rows(x, row + "61) = OUTSIDE", "cell(0, 59" + to + " = 7", row + "-1) = SIZE", "cell(0, 59" + to + " = 7", row + "1) = 1", "put(0, 0, 7) = 1", "put(0, 1, 7) = INDEX");
            Check.rows(x, row + "0) = 1", "put(0, 0, 7) = INDEX", "cell(0, 0" + to + " = LOST", "fault() = 3", "lose(0) = 1");
        }
    }

    private static void zeroAtFirst() {
        Check.says(0, "numbers (0 at first) of a LANE: 0 bytes, 1 shorts, 2 ints;");
        CenturyPosts x = new CenturyPosts();
        Check.rows(x, "sheet(1, 2, 60) = 1", "cell(1, 0|30|59, 2) = 0", "put(1, 0|1|2|30|59, 9) = 1", "sheet(1, 2, 60) = 1", "cell(1, 0|1|2|30|59, 2) = 0",
            "put(1, 0|2, 9) = 1", "sheet(1, 0, 2) = 1", "cell(1, 0|1, 0) = 0", "sheet(1, 1, 3) = 1", "cell(1, 0|1|2, 1) = 0");
        Check.rows(x, "put(1, 0|1|2, 9) = 1", "lose(1) = 1", "sheet(1, 1, 3) = 1", "cell(1, 0|1|2, 1) = 0", "put(1, 2, 9)", "sheet(1, 1, 1)", "sheet(1, 1, 3)", "cell(1, 2, 1) = 0");
        for (int k = 0; k < 4; k++) Check.rows(x, "sheet(" + k + ", 2, 60) = 1", "put(" + k + ", 0|59, " + (k + 5) + ") = 1");
        Check.rows(x, "cell(*, 0, 2) = 5 6 7 8", "cell(*, 59, 2) = 5 6 7 8", "sheet(1, 2, 60) = 1", "cell(*, 0, 2) = 5 0 7 8", "cell(*, 59, 2) = 5 0 7 8");
    }

    private static void cutToLanes() {
        Check.says(0, "what comes to a cell of it is cut to its LANE.");
        CenturyPosts x = new CenturyPosts();
        int[] values = {0, 127, 128, -128, -129, 255, 256, -256, 32767, 32768, -32768, -32769, 65535, 65536, 70001, Integer.MAX_VALUE, Integer.MIN_VALUE};
        for (int lane = 0; lane < 3; lane++) {
            Check.rows(x, "sheet(0, " + lane + ", 2) = 1");
            for (int v : values) {
                long want = lane == 0 ? (byte) v : lane == 1 ? (short) v : v;
                Check.rows(x, "put(0, 1, " + v + ") = 1", "cell(0, 1, " + lane + ") = " + want, "cell(0, 0, " + lane + ") = 0");
            }
        }
    }

    private static void sheet() {
        Check.says(26, "A SHEET gets a new row: 1.");
        CenturyPosts x = new CenturyPosts();
        Check.rows(x, "sheet(0|3, 0, 5) = 1", "fault() = 0", "put(0, 0, 9)", "sheet(0, 0, 5) = 1", "cell(0, 0, 0) = 0", "sheet(0, 2, 5) = 1", "cell(0, 0, 0) = LOST", "fault() = 2", "cell(0, 0, 2) = 0");
        Check.says(26, "UNKNOWN; OUTSIDE: lane, n above 60; SIZE.");
        Check.rows(x, "put(0, 0, 9)", "as(0, 0)", "sheet(-1|4|MIN|MAX, -1|3, -1|61) = UNKNOWN", "sheet(0, -1|3|MIN|MAX, -1|0|61) = OUTSIDE", "sheet(0, 0|1|2, 61|MAX) = OUTSIDE",
            "fault() = 0", "sheet(0, 0|1|2, -1|MIN) = SIZE", "fault() = 4", "cell(0, 0, 2) = 9", "sheet(0, 0|1|2, 0|60) = 1", "fault() = 0");
        Check.rows(new CenturyPosts(), "sheet(1, 0, -1) = SIZE", "lose(1) = 0", "sheet(1, 0, 61) = OUTSIDE", "lose(1) = 0");
    }

    private static void lose() {
        Check.says(27, "A SHEET has nothing: 1; 0: it had nothing.");
        CenturyPosts x = new CenturyPosts();
        Check.rows(x, "lose(1) = 0", "sheet(1, 1, 5) = 1", "sheet(2, 1, 5) = 1", "lose(1) = 1", "put(1, 0, 0) = NULL", "cell(1, 0, 0|1|2) = LOST", "fault() = 1", "lose(1) = 0",
            "put(2, 0, 0) = 1", "sheet(1, 0, 0) = 1", "lose(1) = 1");
        Check.says(27, "UNKNOWN.");
        Check.rows(x, "put(1, 0, 0) = NULL", "lose(-1|4|MIN|MAX) = UNKNOWN", "fault() = 1", "lose(0) = 0", "fault() = 1");
    }

    private static void put() {
        Check.says(28, "Cell i of a SHEET becomes v: 1.");
        CenturyPosts x = new CenturyPosts();
        Check.rows(x, "sheet(0|1, 2, 3) = 1", "put(0, *, 7) = 1 1 1", "put(0, 1, -8) = 1", "fault() = 0", "cell(0, *, 2) = 7 -8 7", "cell(1, *, 2) = 0 0 0");
        Check.says(28, "UNKNOWN; NULL; INDEX.");
        Check.rows(x, "put(-1|4|MIN|MAX, -1, 0) = UNKNOWN", "fault() = 0", "put(2, -1|0, 0) = NULL", "fault() = 1", "put(0, -1|3|MIN|MAX, 0) = INDEX", "fault() = 3", "put(4, 0, 0) = UNKNOWN",
            "fault() = 0", "cell(0, *, 2) = 7 -8 7", "sheet(0, 2, 0)", "put(0, 0, 0) = INDEX");
    }

    private static void cell() {
        Check.says(29, "Cell i of what a SHEET has, taken as a row of a LANE.");
        CenturyPosts x = new CenturyPosts();
        Check.rows(x, "sheet(0, 0, 2)", "sheet(1, 1, 2)", "sheet(2, 2, 2)", "put(0|1|2, 1, -70001)", "cell(0, 1, 0) = -113", "cell(1, 1, 1) = -4465", "cell(2, 1, 2) = -70001", "fault() = 0", "cell(0, 0, 0) = 0");
        Check.says(29, "LOST: UNKNOWN, OUTSIDE: lane; FAULTS CAST (nothing is no CAST), NULL, INDEX.");
        Check.rows(x, "cell(0, 9, 1) = LOST", "fault() = 2", "cell(-1|4|MIN|MAX, 0, 0) = LOST", "fault() = 0", "cell(1, -1, 0|2) = LOST", "fault() = 2", "cell(0, 0, -1|3|MIN|MAX) = LOST", "fault() = 0",
            "cell(2, -1, 1) = LOST", "fault() = 2", "cell(3, -1, 0|1|2) = LOST", "fault() = 1", "cell(3, 0, 3) = LOST", "fault() = 0", "cell(0, -1|2|MIN|MAX, 0) = LOST", "fault() = 3", "cell(0, 0, 0) = 0", "fault() = 0");
    }

    private static void copyWithinOne() {
        Check.says(30, "n cells of a SHEET from i on go to another one (perhaps the same) from j on, as they were: n.");
        CenturyPosts x = new CenturyPosts();
        Check.lay(x, 0, 0, 1, 2, 3, 4, 5);
        Check.rows(x, "copy(0, 0, 0, 1, 4) = 4", "cell(0, *, 0) = 1 1 2 3 4", "copy(0, 1, 0, 0, 4) = 4", "cell(0, *, 0) = 1 2 3 4 4", "copy(0, 0, 0, 0, 5) = 5", "cell(0, *, 0) = 1 2 3 4 4",
            "copy(0, 0, 0, 3, 2) = 2", "cell(0, *, 0) = 1 2 3 1 2", "copy(0, 4, 0, 0, 1) = 1", "cell(0, *, 0) = 2 2 3 1 2");
    }

    private static void copy() {
        Check.says(30, "go to another one (perhaps the same) from j on, as they were: n.");
        for (int lane = 0; lane < 3; lane++) {
            CenturyPosts x = new CenturyPosts();
            Check.lay(x, 2, lane, 70001, -2, 300, 4);
            Check.lay(x, 3, lane, 9, 9, 9);
            long cut = lane == 0 ? 113 : lane == 1 ? 4465 : 70001;
            Check.rows(x, "copy(2, 0, 3, 1, 2) = 2", "fault() = 0", "cell(3, *, " + lane + ") = 9 " + cut + " -2", "cell(2, 0|1, " + lane + ")", "copy(2, 1, 3, 0, 3) = 3", "cell(3, 0, " + lane + ") = -2",
                "cell(3, 2, " + lane + ") = 4", "copy(2, 4, 3, 3, 0) = 0", "copy(3, 0, 2, 1, 3) = 3", "cell(2, 3, " + lane + ") = 4", "cell(2, 0, " + lane + ") = " + cut);
        }
    }

    private static void copyRefuses() {
        Check.says(30, "UNKNOWN; FAULTS NULL (the first, the other), CAST (unlike LANES), INDEX: i, j, n below 0 or beyond.");
        CenturyPosts x = new CenturyPosts();
        Check.lay(x, 0, 0, 1, 2, 3, 4, 5);
        Check.lay(x, 1, 0, 6, 7, 8, 9);
        Check.rows(x, "sheet(2, 1, 4) = 1");
        Check.rows(x, "copy(-1|4|MIN|MAX, 0, 0|3, 0, 0) = UNKNOWN", "copy(0|3, -1, -1|4|MIN|MAX, -1, -1) = UNKNOWN", "fault() = 0", "copy(3, -1, 0|2|3, -1, -1) = NULL", "fault() = 1",
            "copy(4, 0, 0, 0, 0) = UNKNOWN", "fault() = 0", "copy(0|2, -1, 3, -1, -1) = NULL", "fault() = 1", "copy(0, -1, 2, -1, -1) = CAST", "fault() = 2", "copy(2, 0, 0, 0, 0) = CAST");
        Check.rows(x, "copy(0, -1|6|MIN|MAX, 1, 0, 0|1) = INDEX", "fault() = 3", "copy(0, 0, 1, -1|5|MIN|MAX, 0|1) = INDEX", "copy(0, 0, 1, 0, -1|5|6|MIN|MAX) = INDEX", "copy(1, 0, 0, 0, 5) = INDEX",
            "copy(0, 2, 1, 0, 4) = INDEX", "copy(0, 1, 1, 1, 4) = INDEX", "copy(0, 5, 1, 0, 1) = INDEX", "copy(0, 1, 0, 1, MAX) = INDEX", "copy(0, MAX, 1, MAX, MAX) = INDEX", "copy(0, MIN, 1, MIN, MIN) = INDEX");
        Check.rows(x, "cell(0, *, 0) = 1 2 3 4 5", "cell(1, *, 0) = 6 7 8 9", "copy(0, 0|5, 1, 0|4, 0) = 0", "fault() = 0", "copy(0, 1, 1, 0, 4) = 4", "cell(1, *, 0) = 2 3 4 5");
    }

    private static int traceOf(int... numbers) {
        int trace = 0;
        for (int number : numbers) trace = 31 * trace + number;
        return trace;
    }

    private static void tellingDreamers() {
        Check.says(0, "TELLING of PERSONS by bodies that leave their number in TRACE");
        Check.says(0, "as they begin: DREAMER (1): his NAP.");
        Check.rows(Check.with("c1;d0011;d0019"), "tell(0) = 1", "trace() = 1", "tell(1) = 9", "trace() = " + traceOf(1, 1));
    }

    private static void tellingHeavyOnes() {
        Check.says(0, "HEAVY (2): what DREAMER's gives, and 100.");
        Check.rows(Check.with("c1;h0011;h0019"), "tell(0) = 101", "trace() = " + traceOf(2, 1), "tell(1) = 109", "trace() = " + traceOf(2, 1, 2, 1));
    }

    private static void tellingEnchantedOnes() {
        Check.says(0, "ENCHANTED (3): what HEAVY's gives, and what DREAMER's gives (HEAVY's left out).");
        Check.rows(Check.with("c1;e0011;e0019"), "tell(0) = 102", "trace() = " + traceOf(3, 2, 1, 1), "tell(1) = 118", "trace() = " + traceOf(3, 2, 1, 1, 3, 2, 1, 1));
    }

    private static void roused() {
        Check.says(0, "ROUSED by a lent body (4): his number; ENCHANTED ones have their own (5): 70.");
        CenturyPosts x = Check.with("c1;e0011;d0011;h0011;d0011;h0011;e0011");
        Check.rows(x, "rouse(1) = 1", "trace() = 4", "rouse(2) = 2", "trace() = " + traceOf(4, 4), "rouse(0) = 70", "trace() = " + traceOf(4, 4, 5), "rouse(5) = 70", "rouse(4) = 4",
            "trace() = " + traceOf(4, 4, 5, 5, 4));
    }

    private static void traceWraps() {
        Check.says(0, "(an int that wraps, 0 at first, becomes 31 times it and the number)");
        CenturyPosts x = Check.with(KINDS, "trace() = 0");
        int trace = 0;
        boolean below = false;
        for (int k = 0; k < 60; k++) {
            int p = k % 3;
            trace = 31 * trace + (p == 2 ? 5 : 4);
            below |= trace < 0;
            Check.rows(x, "rouse(" + p + ")", "trace() = " + trace);
        }
        Check.holds("it has wrapped", below);
    }

    private static void tell() {
        Check.says(31, "TELLING of a PERSON. UNKNOWN.");
        CenturyPosts x = Check.with(KINDS, "tell(*) = 7 108 118", "trace() = " + traceOf(1, 2, 1, 3, 2, 1, 1), "tell(-1|3|MIN|MAX) = UNKNOWN", "trace() = " + traceOf(1, 2, 1, 3, 2, 1, 1));
        Check.rows(x, "refuse(0, true)", "tell(0) = 7");
        Check.rows(new CenturyPosts(), "tell(0) = UNKNOWN", "trace() = 0");
    }

    private static void rouse() {
        Check.says(32, "How he is ROUSED. UNKNOWN.");
        Check.rows(Check.with(KINDS), "rouse(*) = 0 1 70", "trace() = " + traceOf(4, 4, 5), "rouse(-1|3|MIN|MAX) = UNKNOWN", "trace() = " + traceOf(4, 4, 5));
        Check.rows(new CenturyPosts(), "rouse(0) = UNKNOWN", "trace() = 0");
    }

    private static void as() {
        Check.says(33, "A PERSON, taken as one of a kind: 1.");
        CenturyPosts x = Check.with(KINDS, "as(0, *) = 1 CAST CAST", "fault() = 2", "as(1, *) = 1 1 CAST", "as(2, *) = 1 1 1", "fault() = 0");
        Check.says(33, "UNKNOWN; OUTSIDE; CAST: he is none.");
        Check.rows(x, "as(0, 1) = CAST", "as(-1|3|MIN|MAX, -1|0|2|3) = UNKNOWN", "fault() = 0", "as(0, 2) = CAST", "fault() = 2", "as(0|1|2, -1|3|MIN|MAX) = OUTSIDE", "fault() = 0", "as(1, 2) = CAST", "fault() = 2",
            "as(1, 1) = 1", "fault() = 0");
        Check.rows(new CenturyPosts(), "as(0, 0) = UNKNOWN");
    }

    private static void trace() {
        Check.says(34, "TRACE.");
        CenturyPosts x = new CenturyPosts();
        Check.rows(x, "trace() = 0", "trace() = 0");
        Check.due("land", Check.landOf(x, KINDS), 3);
        Check.rows(x, "trace() = 0", "tell(0) = 7", "trace() = 1", "trace() = 1", "tell(1) = 108", "trace() = 1024");
    }

    private static void fault() {
        Check.says(35, "The FAULT of the latest call that names one: 0: it came to none, or was refused (0 ahead of any).");
        CenturyPosts x = new CenturyPosts();
        Check.rows(x, "fault() = 0", "fault() = 0", "put(0, 0, 0) = NULL", "fault() = 1", "fault() = 1");
        x = Check.with(KINDS, "fault() = 0");
        String[] refused = {"land(4, 0, 0, 0)", "land(3, 3, 0, 0)", "wills(4, 0, 0, 0)", "wills(3, 3, 0, 0)", "wills(3, 0, 0, 7)", "wills(3, 0, 0, 1)", "sheet(4, 0, 0)", "sheet(0, 3, 0)", "sheet(0, 0, 61)",
            "put(4, 0, 0)", "cell(4, 0, 0)", "cell(3, 0, 3)", "copy(4, 0, 3, 0, 0)", "copy(3, 0, 4, 0, 0)", "as(3, 0)", "as(0, 3)"};
        String[] faultless = {"land(3, 0, 0, 3)", "land(3, 0, 0, 20)", "wills(3, 0, 0, 0)", "sheet(0, 0, 1)", "put(0, 0, 1)", "cell(0, 0, 0)", "copy(0, 0, 0, 0, 1)", "as(0, 0)"};
        for (String[] rows : new String[][] {refused, faultless}) {
            for (String row : rows) Check.rows(x, "as(0, 1) = CAST", "fault() = 2", row, "fault() = 0");
        }
        Check.rows(x, "as(0, 1) = CAST", "put(0, 9, 0) = INDEX", "fault() = 3", "put(1, 0, 0) = NULL", "fault() = 1", "sheet(0, 0, -1) = SIZE", "fault() = 4", "cell(0, 0, 1) = LOST", "fault() = 2");
        Check.rows(new CenturyPosts(), "put(0, 0, 0) = NULL", "wills(0, 0, 0, 0) = STATE", "fault() = 0");
    }

    private static void faultOfCallsThatNameNone() {
        Check.says(35, "The FAULT of the latest call that names one:");
        CenturyPosts x = Check.with(KINDS, "put(0, 0, 0) = NULL");
        Check.rows(x, "ofPerson(0|9, 0)", "law(0|9)", "refuse(0|9, false)", "will(0|9, 0, 0)", "burn(1|9)", "giveUp(0|9, 40)", "guard(0|9, 0)", "how(0|9, 0)", "age(0|9, 0)", "empty(0|99)", "empties(0|99)",
            "awake(0|99)", "slept(0|9, 0)", "fewest(0|99)", "help(0|9)", "reading(0|9, 0, 0)", "back(1|9)", "laws()", "stubborn()", "named(0|9, 0)", "opened()", "odds(0|99, 0)", "lose(0|9)", "tell(0|9)",
            "rouse(0|9)", "trace()", "many(0|9)", "fault() = 1");
    }

    private static void many() {
        Check.says(36, "How many: 0 PERSONS, 1 POSTS, 2 WILLS, 3 READINGS, 4 the LAW (0 all without a LAND).");
        CenturyPosts x = Check.with("c3;d0017;h0018;e0019;d0011", "many(*) = 4 3 0 0 0", "law(2)", "will(0, 0, 0)", "reading(0, *, 0) = 0 1 2 3 4", "many(*) = 4 3 1 5 2");
        Check.rows(new CenturyPosts(), "many(*) = 0 0 0 0 0");
        Check.says(36, "OUTSIDE.");
        Check.rows(x, "many(-1|5|MIN|MAX) = OUTSIDE");
        Check.rows(new CenturyPosts(), "many(-1|5|MIN|MAX) = OUTSIDE");
    }
}
