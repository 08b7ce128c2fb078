/** Part 3 of the document and promises 16 to 18: the fewest, the will that helps most, wills that are told. */
public final class WillsTest {
    /** By law 0 the first sleeps 0 .. 8 while the other grows old: 31 empty decades; by a will of 0 for the other 4. */
    private static final String OLD = "c1;d0019;d0099";

    public static void main(String[] args) {
        sixWills();
        emptyDecades();
        fewestOfAll();
        fewestBySets();
        fewestAndWhoRefuses();
        fewestOfSeveral();
        fewestWhereAllAreTooMany();
        nobodyIsNeeded();
        fewest();
        helpsMost();
        noneHelps();
        helpWhereThereAreSix();
        helpOfSeveral();
        help();
        toldInPlaceOfAll();
        told();
        toldRefuses();
        toldFaults();
        toldCells();
        Check.end();
    }

    private static void sixWills() {
        Check.says(0, "WILLS, 6 at most, numbered by how many there are.");
        CenturyPosts x = Check.with(OLD, "will(0, 1, *) = 0 1 2 3 4 5", "many(2) = 6", "will(0, 1, 0) = FULL", "many(2) = 6", "burn(4) = 2", "many(2) = 2");
        Check.rows(x, "will(0, 0, *) = 2 3 4 5", "will(0, 0, 0) = FULL", "burn(6) = 0", "will(0, 0, 0) = 0");
    }

    private static void emptyDecades() {
        Check.says(0, "EMPTY DECADES by one: how many, of all POSTS together, up to it (it, too).");
        Check.rows(Check.with(OLD), "empties(8) = 0", "empties(9) = 1", "empties(10) = 2", "empties(39) = 31");
        Check.rows(Check.with("c3;d0911;d0911"), "empties(0) = 3", "empties(8) = 27", "empties(9) = 28", "empties(10) = 31", "empties(39) = 118");
    }

    /** Each of six must lie down in the decade in which he is born. */
    private static void fewestOfAll() {
        Check.says(0, "FEWEST for a DECADE: the fewest PERSONS of whom, if all others REFUSE (and they do not), no POST is EMPTY up to it: as a set");
        CenturyPosts x = Check.with("c1;d0011;d0111;d0211;d0311;d0411;d0511");
        Check.rows(x, "fewest(*) = 1 3 7 15 31 63 NONE NONE", "fewest(39) = NONE");
    }

    /** 2 alone lasts up to 1, 3 alone up to 4; 0 and 2 up to 5; 1 and 2 up to 15, and by 6 also 0 and 3, 2 and 3. */
    private static void fewestBySets() {
        Check.says(0, "the fewest PERSONS of whom, if all others REFUSE (and they do not), no POST is EMPTY up to it");
        Check.rows(Check.with("c1;h0172;e0235;d0022;d0055"), "fewest(*) = 4 4 8 8 8 5 6", "fewest(15) = 6");
        Check.rows(Check.with("c1;d0091;h0174;e0177;e0081"), "fewest(0) = 1", "fewest(1) = 8", "odds(1, 0) = 11", "odds(1, 1) = 16");
    }

    private static void fewestAndWhoRefuses() {
        Check.says(0, "if all others REFUSE (and they do not), no POST is EMPTY up to it");
        CenturyPosts x = Check.with("c1;d0021;d0031", "refuse(0, true) = 1");
        Check.rows(x, "fewest(0) = 1", "fewest(3) = 3", "ofPerson(*, 6) = 1 0", "guard(0, 0) = 1", "refuse(1, true) = 1", "fewest(0) = 1", "fewest(3) = 3",
            "ofPerson(*, 6) = 1 1", "guard(0, 0) = NONE");
    }

    private static void fewestOfSeveral() {
        Check.says(0, "as a set: of several the least;");
        Check.rows(Check.with("c1;d0099;d0099;d0099"), "fewest(0) = 1", "fewest(8) = 1");
        Check.rows(Check.with("c2;d0199;d0099;d0099;d0099"), "fewest(0) = 6");
        Check.rows(Check.with("c4;d0099;d0099;d0099;d0099;d0099;d0099"), "fewest(0) = 15");
    }

    /** By all, 0 sleeps up to 5 and 1 is dead by 3, so that 6 is empty; 1 alone sleeps up to 7. */
    private static void fewestWhereAllAreTooMany() {
        Check.says(0, "NONE: not by all.");
        Check.rows(Check.with("c1;d0021;d0031"), "fewest(3) = 3", "fewest(4) = NONE", "fewest(39) = NONE");
        Check.rows(Check.with("c1;d0191;d0991"), "fewest(0) = NONE", "fewest(39) = NONE", "giveUp(0, 0)", "fewest(39) = 0");
        CenturyPosts x = Check.with("c1;h0014;d0038");
        Check.rows(x, "empties(6) = 1", "fewest(5) = 1", "fewest(6) = 2", "fewest(7) = 2", "fewest(8) = NONE");
    }

    private static void nobodyIsNeeded() {
        Check.says(16, "FEWEST, as a set; NONE.");
        CenturyPosts x = Check.with("c2;d0011;d0011");
        Check.rows(x, "fewest(0) = 3", "fewest(1) = NONE", "giveUp(0, 0)", "fewest(0) = 1", "fewest(1) = NONE", "giveUp(1, 1)", "fewest(0) = 1", "fewest(1|39) = 1",
            "giveUp(1, 0)", "fewest(0|39) = 0", "refuse(0|1, true)", "fewest(0|39) = 0");
    }

    private static void fewest() {
        Check.says(16, "OUTSIDE; STATE: there is no LAND.");
        Check.rows(Check.with(OLD), "fewest(-1|40|MIN|MAX) = OUTSIDE", "fewest(0) = 1", "fewest(39) = NONE");
        Check.rows(new CenturyPosts(), "fewest(-1|40|MIN|MAX) = OUTSIDE", "fewest(0|39) = STATE");
    }

    private static void helpsMost() {
        Check.says(0, "HELP: the one WILL more");
        Check.says(0, "by which there are the fewest EMPTY DECADES by DECADE 39, fewer than now:");
        CenturyPosts x = Check.with(OLD);
        Check.rows(x, "empties(39) = 31", "help(0) = 100", "help(1) = 4", "many(2) = 0", "empties(39) = 31", "will(0, 1, 0) = 0", "empties(39) = 4", "help(0) = NONE", "help(1) = 4");
        Check.rows(Check.with("c1;d0419;d0499"), "help(0) = 104", "help(1) = 7", "empties(39) = 31");
        Check.rows(Check.with("c4;d0019;d0019;d0019;d0019;d0019;d0099", "giveUp(0|1|2, 0)"), "help(0) = 3500", "help(1) = 4");
        Check.rows(Check.with("c2;d0019;d0099", "giveUp(0, 0)"), "help(0) = 1100", "help(1) = 4");
        Check.rows(Check.with("c2;d1099;d0019", "giveUp(1, 0)", "law(2)"), "empties(39) = 31", "help(0) = 0", "help(1) = 4", "will(0, 0, 0)", "help(0) = NONE");
        Check.rows(Check.with("c1;d0019;d0099;d0099", "refuse(1, true)"), "help(0) = 200", "refuse(2, true)", "help(0) = NONE", "help(1) = 31");
    }

    private static void noneHelps() {
        Check.says(0, "fewer than now:");
        Check.rows(Check.with("c1;d0099;d0099"), "empties(39) = 4", "help(0) = NONE", "help(1) = 4");
        Check.rows(Check.with(OLD, "giveUp(0, 0)"), "help(0) = NONE", "help(1) = 0");
        Check.rows(Check.with(OLD, "refuse(0|1, true)"), "help(0) = NONE", "help(1) = 40");
        Check.rows(Check.with(OLD, "will(0, 0, 0)"), "help(0) = NONE", "help(1) = 31");
    }

    private static void helpWhereThereAreSix() {
        Check.says(0, "(also where there are 6)");
        CenturyPosts x = Check.with(OLD, "will(0, 0, 39) = 0", "will(0, 0, *) = 1");
        Check.rows(x, "help(0) = NONE", "burn(1) = 1", "will(0, 0, 39|38|37|36|35)", "many(2) = 6", "help(0) = 100", "help(1) = 4", "many(2) = 6",
            "will(0, 1, 0) = FULL", "empties(39) = 31", "burn(1) = 5", "will(0, 0, 0) = 5", "help(0) = NONE", "help(1) = 31");
    }

    private static void helpOfSeveral() {
        Check.says(0, "of several the least POST, then PERSON, then DECADE.");
        // As good as the one that is due: (1, 1, 2), of a lesser person and decade.
        CenturyPosts x = Check.with("c2;h1225;h0249;e0122", "giveUp(1, 8)");
        Check.rows(x, "empties(39) = 27", "help(0) = 210", "help(1) = 26", "will(1, 1, 2)", "empties(39) = 26", "burn(1)", "will(0, 2, 10)", "empties(39) = 26");
        // (1, 2, 1), of a lesser decade.
        x = Check.with("c2;d0133;d0094;e0175");
        Check.rows(x, "empties(39) = 16", "help(0) = 1105", "help(1) = 11", "will(1, 2, 1)", "empties(39) = 11", "burn(1)", "will(1, 1, 5)", "empties(39) = 11");
        // (0, 2, 1).
        x = Check.with("c1;d0061;h0087;e0066");
        Check.rows(x, "empties(39) = 3", "help(0) = 200", "help(1) = 2", "will(0, 2, 1)", "empties(39) = 2", "burn(1)", "will(0, 2, 0)", "empties(39) = 2");
        Check.rows(Check.with("c1;d0019;d0099;d0099"), "help(0) = 100", "help(1) = 4");
    }

    private static void help() {
        Check.says(17, "HELP: 1000 times the POST, 100 times the PERSON, and the DECADE (what 0; NONE: none helps), EMPTY DECADES then (1; as now).");
        CenturyPosts x = Check.with("c4;d0019;d0019;d0019;d0019;d0019;d0099", "giveUp(0|1|2, 0)");
        Check.rows(x, "help(0) = 3500", "help(1) = 4", "will(3, 0, 0)", "help(0) = NONE", "help(1) = 31", "empties(39) = 31");
        Check.rows(Check.with("c2;h1225;h0249;e0122", "giveUp(1, 8)"), "help(1) = 26", "help(0) = 210");
        Check.says(17, "OUTSIDE; STATE: there is no LAND.");
        Check.rows(x, "help(-1|2|MIN|MAX) = OUTSIDE");
        Check.rows(new CenturyPosts(), "help(-1|2|MIN|MAX) = OUTSIDE", "help(0|1) = STATE");
    }

    private static void toldInPlaceOfAll() {
        Check.says(0, "WILLS told: rows of three (POST, PERSON, DECADE), in place of all: EMPTY DECADES by DECADE 39.");
        CenturyPosts x = Check.with(OLD, "will(0, 1, 0) = 0", "empties(39) = 4");
        Check.lay(x, 0, 2, 0, 1, 0, 0, 0, 0);
        Check.rows(x, "wills(0, 2, 0, 1) = 4", "wills(0, 2, 3, 1) = 31", "wills(0, 2, 0, 0) = 31", "many(2) = 1", "empties(39) = 4", "burn(1) = 0", "wills(0, 2, 0, 1) = 4",
            "many(2) = 0", "empties(39) = 31");
        Check.rows(x, "will(0, 0, 39|38|37|36|35|34)", "wills(0, 2, 0, 1) = 4", "wills(0, 2, 0, 2) = 4", "many(2) = 6");
        Check.rows(x, "refuse(1, true)", "wills(0, 2, 0, 1) = 31", "refuse(1, false)", "giveUp(0, 10)", "wills(0, 2, 0, 1) = 1", "giveUp(0, 40)");
        Check.lay(x, 1, 1, 0, 0, 0, 0, 1, 0);
        Check.rows(x, "wills(1, 1, 0, 2) = 31", "wills(1, 1, 3, 1) = 4");
    }

    private static void told() {
        Check.says(18, "WILLS by n times three such cells: EMPTY DECADES.");
        for (int lane = 0; lane < 3; lane++) {
            CenturyPosts x = Check.with(OLD, "sheet(0, " + lane + ", 60) = 1");
            String row = "wills(0, " + lane + ", ";
            Check.rows(x, "put(0, 42, 0)", "put(0, 44|47|50|53|56, 9)", "put(0, 58, 1)", "put(0, 59, 0)");
            Check.rows(x, row + "42, 6) = 4", row + "42, 5) = 31", row + "57, 1) = 4", row + "60|0, 0) = 31", row + "43, 6) = INDEX", row + "58, 1) = INDEX");
        }
        CenturyPosts x = Check.with("c2;h1225;h0249;e0122", "giveUp(1, 8)");
        Check.lay(x, 2, 0, 9, 0, 2, 10, 1, 1, 2);
        Check.rows(x, "wills(2, 0, 1, 0) = 27", "wills(2, 0, 1, 1) = 26", "wills(2, 0, 4, 1) = 26", "law(1)", "wills(2, 0, 7, 0) = 27");
    }

    private static void toldRefuses() {
        Check.says(18, "UNKNOWN: SHEET; OUTSIDE: lane, n (0 .. 6); STATE: there is no LAND;");
        CenturyPosts x = new CenturyPosts();
        Check.rows(x, "wills(-1|4|MIN|MAX, 3, -1, 7) = UNKNOWN", "wills(0, -1|3|MIN|MAX, -1, 0|7) = OUTSIDE", "wills(0, 0, -1, -1|7|MIN|MAX) = OUTSIDE",
            "wills(0|3, 0|2, -1|0, 0|6) = STATE", "fault() = 0");
        x = Check.with(OLD, "as(0, 2) = CAST");
        Check.rows(x, "wills(-1|4, 3, -1, 7) = UNKNOWN", "fault() = 0", "as(0, 2) = CAST", "wills(0|3, 0, -1, -1|7) = OUTSIDE", "fault() = 0", "wills(3, 3, -1, 0) = OUTSIDE");
    }

    private static void toldFaults() {
        Check.says(18, "CAST; NULL; INDEX;");
        CenturyPosts x = Check.with(OLD);
        Check.lay(x, 1, 1, 9, 9, 9, 0, 1, 0);
        Check.rows(x, "wills(1, 0|2, -1, 6) = CAST", "fault() = 2", "wills(0, 0|1|2, -1, 6) = NULL", "fault() = 1", "wills(1, 1, -1|7|MIN|MAX, 0|1|6) = INDEX", "fault() = 3",
            "wills(1, 1, 0, 3) = INDEX", "wills(1, 1, 1, 2) = INDEX", "wills(1, 1, 4, 1) = INDEX", "wills(1, 1, 3, 1) = 4", "fault() = 0", "wills(1, 1, 6, 0) = 31");
    }

    private static void toldCells() {
        Check.says(18, "OUTSIDE: a cell is no POST, no PERSON, no DECADE.");
        CenturyPosts x = Check.with("c2;d0019;d0099;d0091", "as(0, 2) = CAST");
        int[][] right = {{0, 0, 0}, {1, 2, 39}}, wrong = {{-1, 0, 0}, {2, 0, 0}, {0, -1, 0}, {0, 3, 0}, {0, -9, 0}, {0, 0, -1}, {0, 0, 40}};
        for (int[] row : right) {
            Check.lay(x, 0, 1, row);
            Check.holds("wills by such cells", Check.call(x, "wills", 0, 1, 0, 1) > 0);
        }
        for (int[] row : wrong) {
            Check.lay(x, 0, 1, 0, 1, 0, row[0], row[1], row[2], 0, 1, 0);
            Check.rows(x, "as(0, 2) = CAST", "wills(0, 1, 3, 1) = OUTSIDE", "fault() = 0", "wills(0, 1, 0, 3) = OUTSIDE", "wills(0, 1, 0, 2) = OUTSIDE", "wills(0, 1, 3, 2) = OUTSIDE");
        }
        Check.lay(x, 0, 0, 256, 257, 295);
        Check.lay(x, 1, 1, 256, 257, 295);
        Check.rows(x, "cell(0, 2, 0) = 39", "wills(1, 1, 0, 1) = OUTSIDE");
        Check.holds("cut to bytes they are right", Check.call(x, "wills", 0, 0, 0, 1) > 0);
    }
}
