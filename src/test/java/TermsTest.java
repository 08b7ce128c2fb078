/** "Terms" of the document, ahead of its five parts: what holds for all calls. */
public final class TermsTest {
    /** 2 posts, 4 persons: dreamers, a heavy one, an enchanted one. */
    private static final String LAND = "c2;d0093;h1194;e1072;d1093";
    private static final String PEOPLE = "-1|4|NONE|MIN|MAX";
    private static final String POSTS = "-1|2|NONE|MIN|MAX";
    private static final String SHEETS = "-1|4|NONE|MIN|MAX";
    private static final String DECADES = "-1|40|NONE|MIN|MAX";

    public static void main(String[] args) {
        lastCall();
        noSuchPerson();
        noSuchPost();
        noSuchSheet();
        noSuchDecade();
        otherNumbers();
        noLand();
        noRoom();
        orderOfRefusals();
        changesAreSeen();
        refusalsChangeNothing();
        faultsChangeNothing();
        questionsChangeNothing();
        faultNumbers();
        indexOfNoCells();
        orderOfFaults();
        none();
        sets();
        shares();
        Check.end();
    }

    private static void lastCall() {
        Check.says(0, "An object is used for at most 512 calls after it has been made; what later calls answer is free.");
        CenturyPosts x = Check.with("c1;d0091;e0091");
        int calls = 16;
        int trace = 0;
        for (; calls < 511; calls++) {
            Check.rows(x, "rouse(0) = 0");
            trace = 31 * trace + 4;
        }
        Check.rows(x, "trace() = " + trace);
        for (int k = 0; k < 600; k++) x.tell(k % 3);
        Check.holds("a later call ends", x.trace() == x.trace());
    }

    private static void noSuchPerson() {
        Check.says(0, "REFUSALS: UNKNOWN (there is no such PERSON, POST, SHEET, place)");
        CenturyPosts x = Check.with(LAND);
        Check.rows(x, "ofPerson(" + PEOPLE + ", 0) = UNKNOWN", "refuse(" + PEOPLE + ", true|false) = UNKNOWN",
            "will(0, " + PEOPLE + ", 0) = UNKNOWN", "how(" + PEOPLE + ", 0) = UNKNOWN", "age(" + PEOPLE + ", 0) = UNKNOWN",
            "slept(" + PEOPLE + ", 0) = UNKNOWN", "reading(0, 0, -1|4|-2|-8|-10|MIN|MAX) = UNKNOWN",
            "tell(" + PEOPLE + ") = UNKNOWN", "rouse(" + PEOPLE + ") = UNKNOWN", "as(" + PEOPLE + ", 0) = UNKNOWN");
        Check.rows(x, "ofPerson(0|3, 4) = 3", "how(0|2, 0) = 2", "age(0|2, 0) = 0", "slept(0|2, 0) = 1", "as(0|3, 0) = 1",
            "tell(0|3) = 3", "rouse(3) = 3", "refuse(0|3, true) = 1", "will(0, *, 0) = 0 1 2 3", "reading(0, 0, *) = 0 1 2 3");
    }

    private static void noSuchPost() {
        Check.says(0, "UNKNOWN (there is no such PERSON, POST, SHEET, place)");
        CenturyPosts x = Check.with(LAND);
        Check.rows(x, "will(" + POSTS + ", 0, 0) = UNKNOWN", "giveUp(" + POSTS + ", 0) = UNKNOWN", "guard(" + POSTS + ", 0) = UNKNOWN",
            "reading(" + POSTS + ", 0, 0) = UNKNOWN", "reading(" + POSTS + ", 0, NONE) = UNKNOWN", "named(" + POSTS + ", 0) = UNKNOWN");
        Check.rows(x, "guard(*, 0) = 0 2", "named(0|1, 0) = 15", "will(*, 0, 0) = 0 1", "reading(*, 0, 0) = 0 1", "giveUp(0|1, 0) = 40");
    }

    private static void noSuchSheet() {
        Check.says(0, "(there is no such PERSON, POST, SHEET, place)");
        CenturyPosts x = Check.with(LAND);
        Check.rows(x, "land(" + SHEETS + ", 0, 0, 0) = UNKNOWN", "wills(" + SHEETS + ", 0, 0, 0) = UNKNOWN",
            "sheet(" + SHEETS + ", 0, 0) = UNKNOWN", "lose(" + SHEETS + ") = UNKNOWN", "put(" + SHEETS + ", 0, 0) = UNKNOWN",
            "cell(" + SHEETS + ", 0, 0) = LOST", "fault() = 0",
            "copy(" + SHEETS + ", 0, 0, 0, 0) = UNKNOWN", "copy(0, 0, " + SHEETS + ", 0, 0) = UNKNOWN");
        Check.rows(x, "sheet(0|3, 0, 3) = 1", "put(0|3, 1, 7) = 1", "cell(0|3, 1, 0) = 7", "copy(0|3, 0, 0|3, 0, 3) = 3",
            "wills(0|3, 0, 2, 0) = 7", "land(0|3, 0, 0, 3) = -100", "lose(0|3) = 1");
    }

    private static void noSuchDecade() {
        Check.says(0, "OUTSIDE (another number is not as told)");
        CenturyPosts x = Check.with(LAND);
        Check.rows(x, "will(0, 0, " + DECADES + ") = OUTSIDE", "giveUp(0, -1|41|NONE|MIN|MAX) = OUTSIDE", "guard(0, " + DECADES + ") = OUTSIDE",
            "how(0, " + DECADES + ") = OUTSIDE", "age(0, " + DECADES + ") = OUTSIDE", "empty(" + DECADES + ") = OUTSIDE",
            "empties(" + DECADES + ") = OUTSIDE", "awake(" + DECADES + ") = OUTSIDE", "slept(0, " + DECADES + ") = OUTSIDE",
            "fewest(" + DECADES + ") = OUTSIDE", "reading(0, " + DECADES + ", 0) = OUTSIDE", "named(0, " + DECADES + ") = OUTSIDE",
            "odds(" + DECADES + ", 0|1) = LOST");
    }

    private static void otherNumbers() {
        Check.says(0, "OUTSIDE (another number is not as told), STATE (as told)");
        CenturyPosts x = Check.with(LAND);
        Check.rows(x, "ofPerson(0, -1|7|NONE|MIN|MAX) = OUTSIDE", "law(-1|3|NONE|MIN|MAX) = OUTSIDE", "burn(-1|1|MIN|MAX) = OUTSIDE",
            "back(-1|1|MIN|MAX) = OUTSIDE", "help(-1|2|MIN|MAX) = OUTSIDE", "odds(0, -1|2|MIN|MAX) = LOST", "as(0, -1|3|MIN|MAX) = OUTSIDE",
            "many(-1|5|MIN|MAX) = OUTSIDE", "sheet(0, -1|3|MIN|MAX, 1) = OUTSIDE", "sheet(0, 0|1|2, 61|MAX) = OUTSIDE",
            "cell(3, 0, -1|3|MIN|MAX) = LOST", "land(3, -1|3|MIN|MAX, 0, 26) = OUTSIDE", "wills(3, -1|3|MIN|MAX, 0, 0) = OUTSIDE",
            "wills(3, 0, 0, -1|7|MIN|MAX) = OUTSIDE");
    }

    private static void noLand() {
        Check.says(0, "STATE (as told)");
        CenturyPosts x = new CenturyPosts();
        Check.rows(x, "law(0|1|2) = STATE", "empty(0|39) = STATE", "empties(0|39) = STATE", "awake(0|39) = STATE", "fewest(0|39) = STATE",
            "help(0|1) = STATE", "wills(0|3, 0|2, 0, 0|6) = STATE", "laws() = STATE", "stubborn() = STATE", "opened() = STATE",
            "odds(0|39, 0|1) = LOST", "many(4) = 0");
        Check.rows(x, "ofPerson(0, 0) = UNKNOWN", "refuse(0, true) = UNKNOWN", "will(0, 0, 0) = UNKNOWN", "giveUp(0, 0) = UNKNOWN",
            "guard(0, 0) = UNKNOWN", "how(0, 0) = UNKNOWN", "age(0, 0) = UNKNOWN", "slept(0, 0) = UNKNOWN", "reading(0, 0, 0|NONE) = UNKNOWN",
            "named(0, 0) = UNKNOWN", "tell(0) = UNKNOWN", "rouse(0) = UNKNOWN", "as(0, 0) = UNKNOWN");
    }

    private static void noRoom() {
        Check.says(0, "FULL; of several the first");
        CenturyPosts x = Check.with(LAND, "will(0, 0, *) = 0 1 2 3 4 5", "reading(0, *, NONE) = 0 1 2 3 4 5 6 7");
        Check.rows(x, "will(0|1, 0|3, 0|39) = FULL", "reading(0|1, 0|39, 0|3|NONE) = FULL", "many(2) = 6", "many(3) = 8",
            "burn(1) = 5", "back(1) = 7", "will(0, 0, 0) = 5", "reading(0, 0, 0) = 7", "will(0, 0, 0) = FULL", "reading(0, 0, 0) = FULL");
    }

    private static void orderOfRefusals() {
        Check.says(0, "of several the first in the order in which a call's line tells them.");
        CenturyPosts x = Check.with(LAND, "will(0, 0, *) = 0 1 2 3 4 5", "reading(0, *, NONE) = 0 1 2 3 4 5 6 7");
        Check.rows(x, "ofPerson(4, 7) = UNKNOWN", "will(2, 0, 40) = UNKNOWN", "will(0, 4, 40) = UNKNOWN", "will(0, 0, 40) = OUTSIDE",
            "giveUp(2, 41) = UNKNOWN", "guard(2, 40) = UNKNOWN", "how(4, 40) = UNKNOWN", "age(4, 40) = UNKNOWN", "slept(4, 40) = UNKNOWN",
            "reading(2, 40, 0) = UNKNOWN", "reading(0, 40, 4) = UNKNOWN", "reading(0, 40, 0) = OUTSIDE", "named(2, 40) = UNKNOWN",
            "as(4, 3) = UNKNOWN", "land(4, 3, -1, -1) = UNKNOWN", "wills(4, 3, -1, 7) = UNKNOWN", "sheet(4, 3, 61|-1) = UNKNOWN",
            "land(0, 3, -1, -1) = OUTSIDE", "land(3, 3, -1, -1) = OUTSIDE", "wills(0, 3, -1, 0) = OUTSIDE", "wills(0, 0, -1, 7) = OUTSIDE",
            "sheet(0, 3, -1) = OUTSIDE", "put(4, -1, 0) = UNKNOWN", "copy(4, -1, 0, -1, -1) = UNKNOWN", "copy(0, -1, 4, -1, -1) = UNKNOWN");
        Check.rows(new CenturyPosts(), "law(3) = OUTSIDE", "empty(40) = OUTSIDE", "empties(40) = OUTSIDE", "awake(40) = OUTSIDE",
            "fewest(40) = OUTSIDE", "help(2) = OUTSIDE", "wills(4, 0, 0, 0) = UNKNOWN", "wills(0, 3, 0, 0) = OUTSIDE",
            "wills(0, 0, 0, 7) = OUTSIDE", "wills(0, 0, -1, 6) = STATE", "fault() = 0");
    }

    /** An object of which every part is in use: six wills that each make another lie down, eight readings, three sheets. */
    private static CenturyPosts full() {
        CenturyPosts x = Check.with("c2;d0092;h1191;e1071;d1092;d0091", "law(1) = 0", "refuse(3, true) = 1", "giveUp(1, 20) = 40", "tell(2)");
        Check.rows(x, "will(1, 4, 0) = 0", "will(0, 2, 0) = 1", "will(0, 0, 6) = 2", "will(1, 4, 3) = 3", "will(1, 0, 4) = 4", "will(1, 1, 1) = 5");
        Check.rows(x, "reading(0, 0, 2) = 0", "reading(1, 0, 4) = 1", "reading(1, 1, 1) = 2", "reading(1, 4, 0) = 3", "reading(0, 6, 0) = 4",
            "reading(0, 5, 2) = 5", "reading(1, 39, NONE) = 6", "reading(0, 39, NONE) = 7");
        Check.lay(x, 0, 2, 70001, -5, 3);
        Check.lay(x, 1, 1, 0, 0, 0, 0, 5, 0);
        return x;
    }

    /** What the tests below rest on: whatever does change is seen. */
    private static void changesAreSeen() {
        Check.says(0, "They change nothing");
        String[][] changes = {{"law(0)"}, {"refuse(3, false)"}, {"refuse(0, true)"}, {"giveUp(0, 39)"}, {"giveUp(1, 21)"}, {"burn(1)"},
            {"burn(1)", "will(1, 1, 2)"}, {"burn(6)", "will(0, 4, 0)", "will(0, 2, 0)", "will(0, 0, 6)", "will(1, 4, 3)", "will(1, 0, 4)", "will(1, 1, 1)"},
            {"back(1)"}, {"back(4)", "reading(0, 6, 4)", "reading(0, 5, 2)", "reading(1, 39, NONE)", "reading(0, 39, NONE)"},
            {"put(0, 0, 70000)"}, {"put(3, 31, 0)"}, {"lose(1)"}, {"sheet(2, 0, 0)"}, {"sheet(0, 2, 3)"}, {"copy(0, 0, 0, 1, 1)"},
            {"tell(0)"}, {"rouse(0)"}, {"land(3, 0, 0, 32)"}};
        String untouched = Snapshot.of(full());
        for (String[] rows : changes) {
            CenturyPosts x = full();
            Check.rows(x, rows);
            Check.holds(rows[0] + " is seen", !Snapshot.of(x).equals(untouched));
        }
    }

    private static void changesNothing(String row, int fault) {
        CenturyPosts x = full();
        Check.rows(x, fault == 2 ? "sheet(0, 0, -1) = SIZE" : "as(0, 2) = CAST", row, "fault() = " + (fault == KEPT ? 2 : fault));
        Check.same(row + " changes nothing", Snapshot.of(x), Snapshot.of(full()));
    }

    /** A call that names no faults leaves fault() as it was. */
    private static final int KEPT = -1;

    private static void refusalsChangeNothing() {
        Check.says(0, "They change nothing (but fault(), of a call that names FAULTS).");
        String[] unnamed = {"ofPerson(5, 0) = UNKNOWN", "ofPerson(0, 7) = OUTSIDE", "law(3) = OUTSIDE", "refuse(5, true) = UNKNOWN",
            "refuse(-1, true) = UNKNOWN", "will(2, 0, 0) = UNKNOWN", "will(0, 0, 40) = OUTSIDE", "will(1, 1, 1) = FULL", "burn(7) = OUTSIDE",
            "burn(-1) = OUTSIDE", "giveUp(2, 0) = UNKNOWN", "giveUp(0, 41) = OUTSIDE", "giveUp(0, -1) = OUTSIDE", "guard(2, 0) = UNKNOWN",
            "how(0, 40) = OUTSIDE", "age(5, 0) = UNKNOWN", "empty(40) = OUTSIDE", "empties(-1) = OUTSIDE", "awake(40) = OUTSIDE",
            "slept(0, 40) = OUTSIDE", "fewest(40) = OUTSIDE", "help(2) = OUTSIDE", "reading(2, 0, 0) = UNKNOWN", "reading(0, 40, 0) = OUTSIDE",
            "reading(0, 0, 0) = FULL", "back(9) = OUTSIDE", "back(-1) = OUTSIDE", "named(0, 40) = OUTSIDE", "odds(40, 0) = LOST",
            "odds(0, 2) = LOST", "lose(4) = UNKNOWN", "tell(5) = UNKNOWN", "rouse(5) = UNKNOWN", "many(5) = OUTSIDE"};
        for (String row : unnamed) changesNothing(row, KEPT);
        String[] named = {"land(4, 0, 0, 32) = UNKNOWN", "land(3, 3, 0, 32) = OUTSIDE", "land(3, 0, 0, 31) = -131", "land(3, 0, 1, 31) = -100",
            "wills(4, 0, 0, 1) = UNKNOWN", "wills(1, 3, 0, 1) = OUTSIDE", "wills(1, 1, 0, 7) = OUTSIDE", "wills(1, 1, 0, 2) = OUTSIDE",
            "sheet(4, 0, 1) = UNKNOWN", "sheet(0, 3, 1) = OUTSIDE", "sheet(0, 2, 61) = OUTSIDE", "put(4, 0, 0) = UNKNOWN",
            "cell(4, 0, 0) = LOST", "cell(0, 0, 3) = LOST", "copy(4, 0, 0, 0, 1) = UNKNOWN", "copy(0, 0, 4, 0, 1) = UNKNOWN",
            "as(5, 0) = UNKNOWN", "as(0, 3) = OUTSIDE"};
        for (String row : named) changesNothing(row, 0);
    }

    private static void faultsChangeNothing() {
        Check.says(0, "it answers -10 less it (LOST, where a long is answered, as for refusals) and changes nothing; fault() tells it.");
        String[] nulls = {"land(2, 0, 0, 32) = -11", "wills(2, 0, 0, 1) = -11", "put(2, 0, 5) = -11", "cell(2, 0, 0) = LOST", "copy(2, 0, 0, 0, 1) = -11",
            "copy(0, 0, 2, 0, 1) = -11"};
        for (String row : nulls) changesNothing(row, 1);
        String[] casts = {"land(3, 1, 0, 32) = -12", "wills(1, 2, 0, 1) = -12", "cell(1, 0, 0) = LOST", "copy(0, 0, 1, 0, 1) = -12", "as(0, 1) = -12"};
        for (String row : casts) changesNothing(row, 2);
        String[] places = {"land(3, 0, 1, 32) = -13", "wills(1, 1, 4, 1) = -13", "put(0, 3, 5) = -13", "put(0, -1, 5) = -13", "cell(0, 3, 2) = LOST",
            "copy(0, 0, 0, 1, 3) = -13", "copy(0, 0, 0, 1, -1) = -13"};
        for (String row : places) changesNothing(row, 3);
        String[] sizes = {"land(3, 0, 0, -1) = -14", "sheet(0, 0, -1) = -14", "sheet(2, 0, -1) = -14", "sheet(3, 2, MIN) = -14"};
        for (String row : sizes) changesNothing(row, 4);
    }

    private static void questionsChangeNothing() {
        Check.says(0, "and changes nothing;");
        String[] unnamed = {"fewest(0) = 5", "odds(0, 0) = 11", "help(0)", "help(1)", "laws()", "stubborn()", "named(0, 0)", "opened()",
            "guard(0, 0) = 2", "empties(39)", "burn(0) = 6", "back(0) = 8", "trace()", "many(0) = 5", "lose(2) = 0",
            "refuse(3, true) = 0", "law(1) = 1", "giveUp(1, 20) = 20"};
        for (String row : unnamed) changesNothing(row, KEPT);
        String[] named = {"wills(1, 1, 0, 1)", "wills(1, 1, 6, 0)", "cell(0, 1, 2) = -5", "put(0, 1, -5) = 1", "copy(0, 0, 0, 0, 3) = 3",
            "copy(1, 6, 1, 6, 0) = 0", "as(2, 1) = 1"};
        for (String row : named) changesNothing(row, 0);
    }

    private static void faultNumbers() {
        Check.says(0, "FAULTS are the machine's: 1 NULL (there is nothing), 2 CAST (it is of another LANE, kind), 3 INDEX");
        CenturyPosts x = Check.with(LAND, "sheet(0, 0, 3) = 1");
        Check.rows(x, "put(1, 0, 0) = -11", "fault() = 1", "cell(0, 0, 1) = LOST", "fault() = 2", "put(0, 3, 0) = -13", "fault() = 3",
            "as(0, 1) = -12", "fault() = 2");
        Check.says(0, "4 SIZE (a length below 0).");
        Check.rows(x, "sheet(0, 0, 0) = 1", "fault() = 0", "sheet(0, 0, -1|MIN) = -14", "fault() = 4", "land(3, 0, 0, 0) = -100", "fault() = 0",
            "land(3, 0, 0, -1|MIN) = -14", "fault() = 4");
    }

    private static void indexOfNoCells() {
        Check.says(0, "3 INDEX (of cells from i on also where i is not 0 .. how many there are, if none of them is taken, too)");
        CenturyPosts x = Check.with(LAND, "sheet(0, 1, 4) = 1", "sheet(1, 1, 0) = 1");
        Check.rows(x, "land(0, 1, -1|5|MIN|MAX, 0) = INDEX", "land(0, 1, 0|4, 0) = -100", "wills(0, 1, -1|5|MIN|MAX, 0) = INDEX", "fault() = 3",
            "wills(0, 1, 0|4, 0) = 7", "fault() = 0", "copy(0, -1|5|MIN|MAX, 0, 0, 0) = INDEX", "copy(0, 0, 0, -1|5|MIN|MAX, 0) = INDEX",
            "copy(0, 0|4, 0, 0|4, 0) = 0", "fault() = 0");
        Check.rows(x, "land(1, 1, 0, 0) = -100", "land(1, 1, -1|1, 0) = INDEX", "wills(1, 1, 0, 0) = 7", "wills(1, 1, -1|1, 0) = INDEX",
            "copy(1, 0, 0, 4, 0) = 0", "copy(1, 1, 0, 4, 0) = INDEX", "copy(0, 4, 1, 1, 0) = INDEX");
    }

    private static void orderOfFaults() {
        Check.says(0, "Of a call the first that is come to, in the order told;");
        CenturyPosts x = Check.with(LAND, "sheet(0, 1, 4) = 1", "sheet(1, 2, 4) = 1");
        Check.rows(x, "land(0, 0, -1, -1) = CAST", "land(2, 0, -1, -1) = NULL", "land(0, 1, -1, -1) = SIZE", "land(0, 1, -1, 0) = INDEX",
            "wills(0, 0, -1, 6) = CAST", "wills(2, 0, -1, 6) = NULL", "wills(0, 1, -1, 6) = INDEX", "put(2, -1, 0) = NULL", "put(0, -1, 0) = INDEX",
            "cell(0, -1, 0) = LOST", "fault() = 2", "cell(2, -1, 0) = LOST", "fault() = 1", "cell(0, -1, 1) = LOST", "fault() = 3",
            "copy(2, -1, 0, 0, -1) = NULL", "copy(0, -1, 2, 0, -1) = NULL", "copy(0, -1, 1, 0, -1) = CAST", "copy(0, -1, 0, 0, -1) = INDEX");
    }

    private static void none() {
        Check.says(0, "NONE is -9.");
        Check.rows(Check.with("c1;d0091;d0991"), "guard(0, *) = 0 -9", "fewest(1) = -9", "help(0) = -9", "reading(0, 1, -9) = 0", "laws() = 7");
        Check.due("NONE", CenturyPosts.NONE, -9);
    }

    private static void sets() {
        Check.says(0, "Sets are told as bits (bit k for number k).");
        CenturyPosts x = Check.with("c4;d0999;d0999;d0999;d0999;d0999;d0099");
        Check.rows(x, "empty(0) = 14", "giveUp(1, 0) = 40", "empty(0) = 12", "giveUp(0, 0) = 40", "guard(2, 0) = 5", "empty(0) = 8",
            "awake(0) = 0", "awake(9) = 60", "refuse(5, true) = 1", "awake(0) = 32", "laws() = 7", "stubborn() = 63", "opened() = 15", "named(0, 0) = 63");
        Check.rows(x, "giveUp(0|1, 40)", "giveUp(0|1|2, 0)", "refuse(5, false) = 1", "fewest(0) = 32");
    }

    private static void shares() {
        Check.says(0, "Shares are told as upper and lower number (above 0) in least terms.");
        Check.rows(Check.with("c1;d0091;d0991"), "odds(0, 0) = 1", "odds(0, 1) = 2", "odds(1, 0) = 0", "odds(1, 1) = 1",
            "giveUp(0, 0) = 40", "odds(39, 0) = 1", "odds(39, 1) = 1");
        Check.rows(Check.with("c1;d0099;d0099;d0099"), "odds(0, 0) = 7", "odds(0, 1) = 8");
        Check.rows(Check.with("c3;d0099;d0099;d0099;d0999"), "odds(0, 0) = 1", "odds(0, 1) = 8");
        Check.rows(Check.with("c2;d0099;d0099;d0099;d0999"), "odds(0, 0) = 1", "odds(0, 1) = 2");
    }
}
