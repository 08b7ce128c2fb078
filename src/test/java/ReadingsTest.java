/** Part 4 of the document and promises 19 to 25: who lay where as somebody saw, and odds. */
public final class ReadingsTest {
    /** Whoever lies down in 0 sleeps up to 8. */
    private static final String THREE = "c1;d0099;d0099;d0099";

    public static void main(String[] args) {
        eightReadings();
        nobodyDid();
        reading();
        back();
        withoutReadings();
        lawsSeen();
        laws();
        stubbornSeen();
        stubbornByTheLaw();
        stubborn();
        namedSeen();
        namedAsTheLast();
        namedWhereThereAreSix();
        named();
        openedSeen();
        openedAsItIs();
        opened();
        oddsOfSets();
        oddsInPlaceOfWhatHeDoes();
        odds();
        Check.end();
    }

    private static void eightReadings() {
        Check.says(0, "READINGS, 8 at most, numbered by how many there are:");
        CenturyPosts x = Check.with(THREE, "reading(0, *, NONE) = 0 1 2 3 4 5 6 7", "many(3) = 8", "reading(0, 0, 0|NONE) = FULL", "many(3) = 8");
        Check.rows(x, "back(5) = 3", "reading(0, *, 0) = 3 4 5 6 7", "reading(0, 0, 0) = FULL", "back(8) = 0", "reading(0, 0, 0) = 0");
        x = Check.with(THREE, "reading(0, *, 0) = 0 1 2 3 4 5 6", "laws() = 7", "reading(0, 7, 1) = 7", "laws() = 0", "back(1) = 7", "laws() = 7");
    }

    private static void nobodyDid() {
        Check.says(0, "in a DECADE a PERSON slept at a POST, or nobody did.");
        CenturyPosts x = Check.with("c1;d0091;d0291");
        Check.rows(x, "guard(0, *) = 0 NONE 0 1", "reading(0, 1, NONE) = 0", "laws() = 7", "reading(0, 0, NONE) = 1", "laws() = 0", "back(2)",
            "reading(0, 1, 0) = 0", "laws() = 0", "back(1)", "reading(0, 3, 1) = 0", "reading(0, 2, 0) = 1", "laws() = 7", "giveUp(0, 0)", "laws() = 0", "back(2)",
            "reading(0, 0|39, NONE)", "laws() = 7");
    }

    private static void reading() {
        Check.says(19, "A READING: its number (p NONE: nobody did).");
        CenturyPosts x = Check.with("c2;d0021;d0031");
        Check.rows(x, "reading(0, 0, 1) = 0", "reading(1, 39, 0) = 1", "reading(0, 39, NONE) = 2", "reading(0, 39, NONE) = 3", "many(3) = 4");
        Check.says(19, "UNKNOWN: POST, PERSON; OUTSIDE: decade; FULL.");
        Check.rows(x, "reading(-1|2|NONE|MIN|MAX, 40, 0|NONE) = UNKNOWN", "reading(0, 40, -1|2|-8|-10|MIN|MAX) = UNKNOWN", "reading(0, -1|40|MIN|MAX, 0|NONE) = OUTSIDE",
            "reading(0, *, 0) = 4 5 6 7", "reading(0, 40, 2) = UNKNOWN", "reading(0, 40, 0) = OUTSIDE", "reading(0, 0, 0) = FULL", "many(3) = 8");
        Check.rows(new CenturyPosts(), "reading(0, 0, 0|NONE) = UNKNOWN");
    }

    private static void back() {
        Check.says(20, "The last k READINGS (0 .. as many as there are) are taken back: how many are left.");
        CenturyPosts x = Check.with(THREE, "reading(0, 0, 0) = 0", "reading(0, 1, 1) = 1", "laws() = 0", "back(0) = 2", "laws() = 0", "back(1) = 1", "laws() = 7",
            "many(3) = 1", "reading(0, *, 1) = 1 2 3 4 5 6 7", "back(8) = 0", "back(0) = 0", "laws() = 7", "reading(0, 0, 0) = 0");
        Check.says(20, "OUTSIDE.");
        Check.rows(x, "back(-1|2|MIN|MAX) = OUTSIDE", "many(3) = 1", "back(1) = 0", "back(-1|1|MIN|MAX) = OUTSIDE");
        Check.rows(new CenturyPosts(), "back(0) = 0", "back(-1|1) = OUTSIDE");
    }

    private static void withoutReadings() {
        Check.says(0, "All that follows: if one thing alone were otherwise, all READINGS are so:");
        Check.rows(Check.with(THREE), "laws() = 7", "stubborn() = 7", "named(0, 0|39) = 7", "opened() = 1");
        Check.rows(Check.with("c4;d0011;d0011;d0011;d0011;d0011;d0011"), "laws() = 7", "stubborn() = 63", "named(3, 39) = 63", "opened() = 15");
        Check.rows(Check.with(THREE, "reading(0, 0, 0)", "reading(0, 9, 1)"), "laws() = 0", "stubborn() = 0", "named(0, 0) = 0", "opened() = 0");
        Check.rows(Check.with(THREE, "reading(0, 0, 1)", "reading(0, 0, 0)"), "laws() = 0", "stubborn() = 0", "named(0, 0) = 0", "opened() = 0");
    }

    private static void lawsSeen() {
        Check.says(0, "LAWS, as a set;");
        CenturyPosts x = Check.with("c1;d0193;d0092;d0093", "reading(0, 2, 2)", "laws() = 2", "many(4) = 0", "law(1)", "laws() = 2", "law(2)", "laws() = 2", "many(4) = 2");
        Check.rows(x, "reading(0, 0, 2)", "laws() = 0", "back(2)", "reading(0, 2, 0)", "laws() = 5", "law(1)", "laws() = 5");
        Check.rows(Check.with("c2;d1091;d0091", "reading(0, 0, 1)"), "laws() = 4", "guard(0, 0) = 0");
        Check.rows(Check.with("c2;d1091;d0091", "reading(0, 0, 0)"), "laws() = 3", "will(0, 0, 0)", "laws() = 7");
        Check.rows(Check.with("c2;d1191;d0092;d0094", "giveUp(1, 0)", "reading(0, 2, 2)"), "laws() = 6");
    }

    private static void laws() {
        Check.says(21, "LAWS, as a set. STATE: there is no LAND.");
        Check.rows(Check.with(THREE), "laws() = 7", "reading(0, 39, 2)", "laws() = 0");
        Check.rows(new CenturyPosts(), "laws() = STATE");
    }

    private static void stubbornSeen() {
        Check.says(0, "STUBBORN: PERSONS who REFUSE, too (each alone), as a set;");
        CenturyPosts x = Check.with(THREE, "reading(0, 0, 1)", "stubborn() = 1", "ofPerson(*, 6) = 0 0 0", "guard(0, 0) = 0");
        Check.rows(x, "refuse(0, true)", "stubborn() = 5", "refuse(1, true)", "stubborn() = 0", "refuse(2, true)", "stubborn() = 0", "back(1)", "stubborn() = 7",
            "reading(0, 0, NONE)", "stubborn() = 7", "refuse(1, false)", "stubborn() = 2");
        Check.rows(Check.with(THREE, "reading(0, 0, 2)"), "stubborn() = 0", "refuse(0, true)", "stubborn() = 2");
        Check.rows(Check.with(THREE, "reading(0, 0, 0)"), "stubborn() = 6");
        Check.rows(Check.with("c1;d0999;d0999;d0999;d0999;d0099;d0099", "reading(0, 0, 5)"), "stubborn() = 16");
    }

    private static void stubbornByTheLaw() {
        Check.says(0, "PERSONS who REFUSE, too (each alone), as a set;");
        CenturyPosts x = Check.with("c2;d1099;d0099;d0099", "law(2)", "will(1, 1, 0)", "reading(0, 0, 2)", "reading(1, 0, 0)");
        Check.rows(x, "stubborn() = 2", "law(0)", "stubborn() = 0");
    }

    private static void stubborn() {
        Check.says(22, "STUBBORN, as a set. STATE: there is no LAND.");
        Check.rows(Check.with(THREE), "stubborn() = 7", "reading(0, 0, 0)", "stubborn() = 6", "reading(0, 1, NONE)", "stubborn() = 0");
        Check.rows(new CenturyPosts(), "stubborn() = STATE");
    }

    private static void namedSeen() {
        Check.says(0, "NAMED for a POST and a DECADE: PERSONS of one WILL more");
        CenturyPosts x = Check.with(THREE, "reading(0, 0, 1)", "named(0, 0) = 2", "named(0, 1|39) = 0", "many(2) = 0", "guard(0, 0) = 0");
        Check.rows(x, "refuse(1, true)", "named(0, 0) = 0", "back(1)", "reading(0, 0, 0)", "named(0, 0) = 3", "named(0, 39) = 7");
        Check.rows(Check.with("c2;d0099;d0099;d0099", "reading(1, 0, 0)"), "named(0, 0) = 6", "named(1, 0) = 0", "will(0, 2, 0)", "named(0, 0|1) = 7", "named(1, 0) = 5");
        Check.rows(Check.with("c2;e0995;e0995", "reading(0, 39, 1)"), "named(0, 39) = 2", "named(0, 24) = 0", "named(1, 39) = 0");
    }

    private static void namedAsTheLast() {
        Check.says(0, "(the last one; also where there are 6)");
        CenturyPosts x = Check.with(THREE, "will(0, 2, 0)", "reading(0, 0, 1)", "named(0, 0) = 0", "back(1)", "reading(0, 0, 2)", "named(0, 0) = 7");
        Check.rows(x, "refuse(2, true)", "named(0, 0) = 0", "back(1)", "reading(0, 0, 1)", "named(0, 0) = 2");
    }

    private static void namedWhereThereAreSix() {
        Check.says(0, "also where there are 6), as a set;");
        CenturyPosts x = Check.with(THREE, "will(0, 2, *) = 0", "burn(1)", "will(0, 0, 34|35|36|37|38|39)", "reading(0, 0, 1)", "named(0, 0) = 2", "many(2) = 6");
        Check.rows(x, "will(0, 1, 0) = FULL", "burn(1) = 5", "will(0, 2, 0) = 5", "named(0, 0) = 0", "back(1)", "reading(0, 0, 2)", "named(0, 0) = 7", "guard(0, 0) = 2");
    }

    private static void named() {
        Check.says(23, "NAMED, as a set. UNKNOWN; OUTSIDE.");
        CenturyPosts x = Check.with(THREE, "reading(0, 0, 2)", "named(0, 0) = 4");
        Check.rows(x, "named(-1|1|MIN|MAX, -1|0|39|40) = UNKNOWN", "named(0, -1|40|MIN|MAX) = OUTSIDE");
        Check.rows(new CenturyPosts(), "named(0, 0) = UNKNOWN");
    }

    private static void openedSeen() {
        Check.says(0, "OPENED: POSTS that are not GIVEN UP (each alone;");
        CenturyPosts x = Check.with("c2;d0099;d0099", "giveUp(0|1, 0)", "reading(1, 8, NONE)", "opened() = 1", "back(1)", "reading(0, 0, 0)", "opened() = 1");
        Check.rows(x, "reading(1, 0, 1)", "opened() = 0", "giveUp(0|1, 0) = 0", "back(2)", "reading(1, 0, 0)", "opened() = 2", "giveUp(1, 8) = 0", "laws() = 7", "opened() = 2");
        x = Check.with("c1;d0092;d0092", "giveUp(0, 1)", "reading(0, 2, 1)", "laws() = 0", "opened() = 1", "guard(0, *) = 0 0 NONE", "giveUp(0, 1) = 1");
        Check.rows(x, "back(1)", "reading(0, 2, NONE)", "laws() = 7", "opened() = 0");
        Check.rows(Check.with("c4;d0099;d0099;d0099;d0099", "giveUp(3, 0)", "reading(3, 0, 3)"), "opened() = 8");
    }

    private static void openedAsItIs() {
        Check.says(0, "one that is not: as it is), as a set.");
        CenturyPosts x = Check.with("c2;d0099;d0099", "giveUp(1, 0)", "reading(0, 0, 0)", "opened() = 3", "reading(1, 0, NONE)", "opened() = 1");
        Check.rows(x, "back(1)", "reading(1, 0, 1)", "opened() = 2", "back(2)", "reading(0, 0, 1)", "opened() = 0");
        Check.rows(Check.with("c3;d0099;d0099;d0099", "reading(2, 0, 2)"), "opened() = 7", "reading(2, 0, 1)", "opened() = 0");
    }

    private static void opened() {
        Check.says(24, "OPENED, as a set. STATE: there is no LAND.");
        Check.rows(Check.with("c4;d0099;d0099"), "opened() = 15", "giveUp(0|1|2|3, 0)", "opened() = 15", "reading(2, 0, 0)", "opened() = 4");
        Check.rows(new CenturyPosts(), "opened() = STATE");
    }

    private static void oddsOfSets() {
        Check.says(0, "ODDS: if each PERSON REFUSES, or does not");
        Check.says(0, "all such sets alike: the share of those by which no POST is EMPTY up to a DECADE.");
        Check.rows(Check.with("c1;d0011;d0111;d0211;d0311;d0411;d0511"), "odds(*, 0) = 1 1 1 1 1 1 0 0", "odds(*, 1) = 2 4 8 16 32 64 1 1", "odds(39, 0) = 0", "odds(39, 1) = 1");
        Check.rows(Check.with("c2;d0099;d0099;d0099;d0099;d0099;d0099"), "odds(0, 0) = 57", "odds(0, 1) = 64", "giveUp(0, 0)", "odds(0, *) = 63 64", "giveUp(1, 0)", "odds(39, *) = 1 1");
        Check.rows(Check.with("c4;d0099;d0099;d0099;d0099;d0099;d0099"), "odds(0, *) = 11 32");
        Check.rows(Check.with("c1;d0021;d0031"), "odds(0, *) = 3 4", "odds(1|2|3, *) = 1 4", "odds(4, *) = 0 1");
        Check.rows(Check.with("c1;h0014;d0038"), "odds(5, *) = 3 4", "odds(6|7, *) = 1 4", "odds(8, *) = 0 1");
    }

    private static void oddsInPlaceOfWhatHeDoes() {
        Check.says(0, "(in place of what he does)");
        CenturyPosts x = Check.with("c1;d0021;d0031", "refuse(0, true)", "odds(0, *) = 3 4", "refuse(1, true)", "odds(0, *) = 3 4", "odds(3, *) = 1 4");
        Check.rows(x, "ofPerson(*, 6) = 1 1", "law(1)", "odds(0, *) = 3 4", "will(0, 1, 0)", "odds(3, *) = 0 1", "burn(1)", "odds(3, *) = 1 4");
    }

    private static void odds() {
        Check.says(25, "ODDS (which 0 the upper, 1 the lower number).");
        CenturyPosts x = Check.with("c1;d0099;d0099;d0099", "odds(0, 0) = 7", "odds(0, 1) = 8", "odds(8, 1) = 8", "odds(8, 0) = 7", "odds(9, 0) = 0", "odds(9, 1) = 1");
        Check.says(25, "LOST: OUTSIDE: decade, which; STATE: there is no LAND.");
        Check.rows(x, "put(0, 0, 0) = NULL", "odds(-1|40|MIN|MAX, 0|1) = LOST", "odds(0|39, -1|2|MIN|MAX) = LOST", "fault() = 1");
        Check.rows(new CenturyPosts(), "odds(0|39, 0|1) = LOST", "odds(40, 2) = LOST");
    }
}
