/** Part 2 of the document and promises 9 to 15: how the decades go. The answers due were worked out by hand. */
public final class DecadesTest {
    /** Two who lie down by turns until both are dead: 0 in even decades up to 16, 1 in odd ones up to 15. */
    private static final String TURNS = "c1;d0091;d0091";

    public static void main(String[] args) {
        firstAndLastDecade();
        bornInEachDecade();
        agesAndDies();
        agesNotAsleep();
        wakesWhenSleepIsOver();
        wakesInTheLastDecade();
        whoMayNotLieDown();
        postByPost();
        willsGoAhead();
        willsThatNameNobody();
        lawOfNumbers();
        lawOfAges();
        lawOfHomes();
        emptyPosts();
        givenUpPosts();
        guard();
        how();
        age();
        empty();
        empties();
        awake();
        slept();
        Check.end();
    }

    private static void firstAndLastDecade() {
        Check.says(0, "DECADES are 0 .. 39.");
        CenturyPosts x = Check.with(TURNS);
        Check.rows(x, "guard(0, 0) = 0", "guard(0, 39) = NONE", "how(0, 0) = 2", "how(0, 39) = 3", "age(0, 0) = 0", "age(0, 39) = 9", "empty(0) = 0",
            "empty(39) = 1", "empties(0) = 0", "empties(39) = 23", "awake(0) = 2", "awake(39) = 0", "slept(0, 0) = 1", "slept(0, 39) = 9", "slept(1, 39) = 8",
            "fewest(0) = 1", "fewest(39) = NONE", "odds(0, 0) = 3", "odds(39, 0) = 0", "named(0, 0|39) = 3", "will(0, 0, 0) = 0", "will(0, 0, 39) = 1",
            "reading(0, 0, 0) = 0", "reading(0, 39, NONE) = 1", "laws() = 7", "giveUp(0, 0) = 40", "giveUp(0, 39) = 0");
        Check.rows(x, "guard(0, -1|40) = OUTSIDE", "how(0, -1|40) = OUTSIDE", "age(0, -1|40) = OUTSIDE", "empty(-1|40) = OUTSIDE", "empties(-1|40) = OUTSIDE",
            "awake(-1|40) = OUTSIDE", "slept(0, -1|40) = OUTSIDE", "fewest(-1|40) = OUTSIDE", "odds(-1|40, 0) = LOST", "named(0, -1|40) = OUTSIDE",
            "will(0, 0, -1|40) = OUTSIDE", "reading(0, -1|40, 0) = OUTSIDE");
    }

    private static void bornInEachDecade() {
        Check.says(0, "A PERSON is UNBORN ahead of the DECADE in which he is BORN; then AWAKE, ASLEEP, or DEAD.");
        Check.rows(Check.with("c1;d0011;d0911"), "how(0, *) = 2 1 3", "how(1, *) = 0 0 0 0 0 0 0 0 0 2 1 3", "age(1, *) = 0 0 0 0 0 0 0 0 0 0 1 1",
            "guard(0, *) = 0 NONE NONE NONE NONE NONE NONE NONE NONE 1 NONE", "awake(*) = 0 1 0 0 0 0 0 0 0 0 2 0", "empties(39) = 38");
        // What he was in the last decade, as it went by other orders, is nothing to him ahead of his birth.
        Check.rows(Check.with("c1;e0999;d0011"), "how(0, 39) = 2", "law(1)", "how(0, *) = 0 0 0 0 0 0 0 0 0 2", "how(0, 39) = 2", "giveUp(0, 0)", "how(0, 8) = 0", "how(0, 9) = 1", "how(0, 39) = 3");
        for (int born = 0; born <= 9; born++) {
            CenturyPosts x = Check.with("c1;d0" + born + "91;d0011", "refuse(0, true) = 1");
            if (born > 0) Check.rows(x, "how(0, 0|" + (born - 1) + ") = 0");
            Check.rows(x, "how(0, " + born + "|" + (born + 1) + ") = 1");
        }
    }

    private static void agesAndDies() {
        Check.says(0, "His AGE is 0 as he is BORN; at the end of each DECADE in which he is AWAKE then it is 1 more; as it is what he LIVES he is DEAD (from the next DECADE on).");
        for (int lives = 1; lives <= 9; lives++) {
            CenturyPosts x = Check.with("c1;d03" + lives + "1;d0011", "refuse(0, true) = 1");
            Check.rows(x, "age(0, *) = 0 0 0 1", "age(0, " + (2 + lives) + "|" + (3 + lives) + "|39) = " + lives, "how(0, 2) = 0", "how(0, 3) = 1",
                "how(0, " + (2 + lives) + ") = 1", "how(0, " + (3 + lives) + "|39) = 3");
            if (lives > 1) Check.rows(x, "age(0, " + (1 + lives) + ") = " + (lives - 1));
        }
    }

    /** 0 sleeps 0 .. 8 and 10 .. 18, is awake in 9 and 19; 1 sleeps in 9. */
    private static void agesNotAsleep() {
        Check.says(0, "at the end of each DECADE in which he is AWAKE then it is 1 more;");
        CenturyPosts x = Check.with("c1;d0029;d0991");
        Check.rows(x, "how(0, *) = 2 2 2 2 2 2 2 2 2 1 2 2 2 2 2 2 2 2 2 1 3", "age(0, *) = 0 0 0 0 0 0 0 0 0 1 1 1 1 1 1 1 1 1 1 2 2",
            "age(1, 8) = 0", "age(1, 9) = 0", "age(1, 10) = 1", "age(1, 18) = 9", "how(1, 18) = 1", "how(1, 19) = 3", "guard(0, 19) = NONE");
    }

    private static void wakesWhenSleepIsOver() {
        Check.says(0, "In each DECADE: first all WAKE whose SLEEP is over (it began so many DECADES ahead).");
        CenturyPosts x = Check.with("c2;d0092;d0091;d0091;d0091");
        Check.rows(x, "guard(0, *) = 0 0 1", "guard(1, *) = 1 2 3", "awake(*) = 12 10 5", "how(0, *) = 2 2 1", "how(2, *) = 1 2 1", "slept(0, *) = 1 2 2");
        x = Check.with("c1;h0021;d0991");
        Check.rows(x, "guard(0, *) = 0 0 0 NONE 0 0 0 NONE NONE 1", "how(0, *) = 2 2 2 1 2 2 2 1 3");
        x = Check.with("c1;e0999;d0011");
        Check.rows(x, "guard(0, 8) = NONE", "guard(0, 9|30|32|39) = 0", "guard(0, 31) = NONE", "how(0, 31) = 1", "how(0, 39) = 2", "age(0, 39) = 1", "slept(0, 39) = 30");
    }

    private static void wakesInTheLastDecade() {
        Check.says(0, "first all WAKE whose SLEEP is over");
        CenturyPosts x = Check.with("c1;e0696;d0011");
        Check.rows(x, "guard(0, 6|21|23|38) = 0", "guard(0, 22|39) = NONE", "how(0, 38) = 2", "how(0, 39) = 1", "age(0, 38) = 1", "age(0, 39) = 2", "slept(0, 39) = 32",
            "empty(39) = 1", "awake(39) = 1");
        x = Check.with("c1;e0995;d0011");
        Check.rows(x, "guard(0, 9|22|24|37|39) = 0", "guard(0, 23|38) = NONE", "how(0, 39) = 2", "age(0, 39) = 2", "slept(0, 38) = 28", "slept(0, 39) = 29", "empty(39) = 0");
    }

    private static void whoMayNotLieDown() {
        Check.says(0, "one LIES DOWN, who is AWAKE, has not WAKED in this DECADE, and does not REFUSE:");
        Check.rows(Check.with("c1;d0091;d0291"), "guard(0, *) = 0 NONE 0 1", "awake(*) = 0 1 2 1", "empty(*) = 0 1 0 0");
        Check.rows(Check.with("c1;d0091;d0291", "will(0, 0, 1) = 0"), "guard(0, *) = 0 NONE 0 1");
        Check.rows(Check.with("c1;d0099;d0099", "refuse(0, true) = 1"), "guard(0, 0) = 1", "refuse(1, true) = 1", "guard(0, 0) = NONE", "awake(0) = 3");
        Check.rows(Check.with("c1;d0991;d0091"), "guard(0, 0) = 1", "guard(0, 9) = 0");
        Check.rows(Check.with("c1;d0019;d0099"), "guard(0, *) = 0 0 0 0 0 0 0 0 0 NONE", "how(1, 8) = 1", "how(1, 9) = 3");
        Check.rows(Check.with("c1;d0019;d0199"), "guard(0, *) = 0 0 0 0 0 0 0 0 0 1", "how(1, 8) = 1");
        Check.rows(Check.with("c2;d0099;d0991"), "guard(0, 0) = 0", "guard(1, 0) = NONE", "empty(0) = 2");
    }

    private static void postByPost() {
        Check.says(0, "Then POST by POST, by numbers: where nobody sleeps, and it is not GIVEN UP by then");
        CenturyPosts x = Check.with("c3;d2099;d0099;d0099;d0099");
        Check.rows(x, "guard(*, 0) = 0 1 2", "awake(0) = 8", "law(2)", "guard(*, 0) = 1 0 2", "law(0)", "giveUp(1, 0)", "guard(*, 0) = 0 NONE 1");
        Check.rows(Check.with("c2;d0099;d0099", "will(1, 0, 0) = 0", "will(0, 0, 0) = 1"), "guard(*, 0) = 0 1");
        Check.rows(Check.with("c2;d0099;d0099", "will(1, 0, 0) = 0", "will(0, 1, 0) = 1"), "guard(*, 0) = 1 0");
        Check.rows(Check.with("c2;d0099;d0099;d0099", "will(1, 0, 0) = 0"), "guard(*, 0) = 0 1");
        Check.rows(Check.with("c1;d0092;d0092", "will(0, 1, 1) = 0"), "guard(0, *) = 0 0 1");
        Check.rows(Check.with("c1;d0092;d0092", "will(0, 1, 0) = 0", "giveUp(0, 0) = 40"), "guard(0, *) = NONE NONE", "awake(0) = 3");
    }

    private static void willsGoAhead() {
        Check.says(0, "if a WILL of that POST and DECADE names such a one, he (of several WILLS the first that does);");
        CenturyPosts x = Check.with("c2;d0092;d0092;d0092;d0992", "will(1, 3, 0)", "will(0, 2, 1)", "will(0, 2, 0)", "will(0, 1, 0)", "will(1, 2, 0)", "will(1, 1, 0)");
        Check.rows(x, "guard(*, 0) = 2 1", "law(1)", "guard(*, 0) = 2 1", "law(2)", "guard(*, 0) = 2 1", "law(0)", "refuse(2, true)", "guard(*, 0) = 1 0");
        Check.rows(Check.with("c2;e0995;e0995", "will(0, 1, 39) = 0"), "guard(*, 38) = NONE NONE", "guard(*, 37) = 0 1", "guard(*, 39) = 1 0");
        Check.rows(Check.with("c2;d0099;d0099;d0099", "will(1, 2, 0) = 0"), "guard(*, 0) = 0 2");
        Check.rows(Check.with("c1;d0091;d0091;d0091", "will(0, 2, 1) = 0"), "guard(0, *) = 0 2 0");
    }

    private static void willsThatNameNobody() {
        Check.says(0, "names such a one, he (of several WILLS the first that does);");
        String[] waked = {"will(0, 0, 1) = 0"}, dead = {"will(0, 1, 1) = 0"}, unborn = {"will(0, 3, 1) = 0"}, refusing = {"refuse(4, true) = 1", "will(0, 4, 1) = 0"};
        for (String[] rows : new String[][] {waked, dead, unborn, refusing}) {
            Check.rows(Check.with("c1;d0091;d0011;d0091;d0291;d0091", rows), "guard(0, *) = 0 2");
        }
        Check.rows(Check.with("c1;d0091;d0011;d0091;d0291;d0091", "will(0, 0, 1)", "will(0, 1, 1)", "will(0, 3, 1)", "will(0, 4, 1)", "will(0, 2, 1)"), "guard(0, *) = 0 4");
        Check.rows(Check.with("c1;d0099;d0991", "refuse(0, true) = 1", "will(0, 0, 0) = 0"), "guard(0, 0) = NONE", "empty(0) = 1");
    }

    private static void lawOfNumbers() {
        Check.says(0, "else by LAW 0 the one of the least number;");
        Check.rows(Check.with("c4;d3095;d0095;d2095;d0095;d2095"), "guard(*, 0) = 0 1 2 3", "awake(0) = 16");
        Check.rows(Check.with("c1;d0096;d0091;d0191"), "guard(0, *) = 0 0 0 0 0 0 1 0");
    }

    /** In 7 two may lie down: 0, who has slept up to 5 and is 1, and 2, who is 6. */
    private static void lawOfAges() {
        Check.says(0, "by LAW 1 the one of the greatest AGE;");
        Check.rows(Check.with("c1;d0096;d0091;d0191", "law(1) = 0"), "guard(0, *) = 0 0 0 0 0 0 1 2", "age(0, 6) = 1", "age(2, 6) = 6");
        Check.rows(Check.with("c1;d0193;d0092;d0093", "law(1) = 0"), "guard(0, *) = 1 1 2");
        Check.says(0, "of several the least number.");
        Check.rows(Check.with("c1;d0991;d0092;d0091;d0091", "law(1) = 0"), "guard(0, *) = 1 1 2");
        Check.rows(Check.with("c3;d0099;d1099;d1099;d2099", "law(1) = 0"), "guard(*, 0) = 0 1 2");
    }

    private static void lawOfHomes() {
        Check.says(0, "by LAW 2 the one whose HOME is the nearest; of several the least number.");
        Check.rows(Check.with("c4;d3095;d0095;d2095;d0095;d2095", "law(2) = 0"), "guard(*, 0) = 1 2 4 0", "awake(0) = 8");
        Check.rows(Check.with("c3;d2099;d0099", "law(2) = 0", "giveUp(0|2, 0) = 40"), "guard(1, 0) = 0");
        Check.rows(Check.with("c3;d0099;d2099", "law(2) = 0", "giveUp(0|2, 0) = 40"), "guard(1, 0) = 0");
        Check.rows(Check.with("c4;d3099;d0099", "law(2) = 0", "giveUp(0|2|3, 0) = 40"), "guard(1, 0) = 1");
        Check.rows(Check.with("c4;d0099;d3099", "law(2) = 0", "giveUp(0|1|3, 0) = 40"), "guard(2, 0) = 1");
        Check.rows(Check.with("c4;d3099;d0099", "law(2) = 0", "giveUp(1|2|3, 0) = 40", "refuse(1, true) = 1"), "guard(0, 0) = 0");
    }

    private static void emptyPosts() {
        Check.says(0, "If there is none, the POST is EMPTY in that DECADE.");
        CenturyPosts x = Check.with("c2;d0091;d0991");
        Check.rows(x, "empty(*) = 2 3 2 3", "guard(0, *) = 0 NONE 0 NONE", "guard(1, 0) = NONE", "refuse(0, true)", "empty(*) = 3 3 3", "empty(9) = 2");
        Check.rows(Check.with("c4;d0911;d0911"), "empty(0|8) = 15", "empty(9) = 12", "empty(10|11|39) = 15");
    }

    private static void givenUpPosts() {
        Check.says(0, "GIVEN UP: a POST may be so from a DECADE on (who sleeps there sleeps on; it is not EMPTY).");
        CenturyPosts x = Check.with("c2;d0093;d0093", "giveUp(0, 1)");
        Check.rows(x, "guard(0, *) = 0 0 0 NONE NONE", "guard(1, *) = 1 1 1 NONE 0", "empty(*) = 0 0 0 2 0", "empties(*) = 0 0 0 1 1");
        Check.rows(x, "giveUp(0, 3)", "guard(0, *) = 0 0 0 NONE NONE", "guard(1, *) = 1 1 1 NONE 0", "empty(*) = 0 0 0 2 0");
        Check.rows(x, "giveUp(0, 4)", "guard(0, *) = 0 0 0 NONE NONE", "guard(1, *) = 1 1 1 NONE 0", "empty(*) = 0 0 0 3 0");
        Check.rows(x, "giveUp(0, 5)", "guard(0, *) = 0 0 0 NONE 0 0 0 NONE NONE", "guard(1, *) = 1 1 1 NONE 1", "empty(*) = 0 0 0 3 0 0 0 2 0");
        Check.rows(x, "giveUp(0, 0)", "guard(0, *) = NONE NONE NONE NONE", "guard(1, *) = 0 0 0 1 1 1 0", "empty(*) = 0 0 0 0");
        x = Check.with("c1;d0011;d0011", "giveUp(0, 39)");
        Check.rows(x, "empty(38) = 1", "empty(39) = 0", "giveUp(0, 40) = 39", "empty(39) = 1");
        x = Check.with("c1;e0995;d0011", "giveUp(0, 39)");
        Check.rows(x, "guard(0, 37) = 0", "guard(0, 39) = NONE", "how(0, 39) = 1", "age(0, 39) = 3", "giveUp(0, 40)", "guard(0, 39) = 0");
    }

    private static void guard() {
        Check.says(9, "Who sleeps at a POST in a DECADE; NONE.");
        CenturyPosts x = Check.with("c4;d0011;d0012;d0013;d0014;d0025");
        Check.rows(x, "guard(0, *) = 0 4 4 4 4 4 NONE", "guard(1, *) = 1 1 NONE", "guard(2, *) = 2 2 2 NONE", "guard(3, *) = 3 3 3 3 NONE", "guard(0|1|2|3, 39) = NONE");
        Check.says(9, "UNKNOWN; OUTSIDE.");
        Check.rows(x, "guard(-1|4|MIN|MAX, -1|0|39|40) = UNKNOWN", "guard(0|3, -1|40|MIN|MAX) = OUTSIDE");
    }

    private static void how() {
        Check.says(10, "How a PERSON is in a DECADE: 0 UNBORN, 1 AWAKE, 2 ASLEEP, 3 DEAD (behind who LIES DOWN).");
        CenturyPosts x = Check.with("c1;d0221;d0231");
        Check.rows(x, "how(0, *) = 0 0 2 1 2 1 3", "how(1, *) = 0 0 1 2 1 2 1 3", "how(0|1, 39) = 3");
        Check.says(10, "UNKNOWN; OUTSIDE.");
        Check.rows(x, "how(-1|2|MIN|MAX, -1|0|39|40) = UNKNOWN", "how(0|1, -1|40|MIN|MAX) = OUTSIDE");
    }

    private static void age() {
        Check.says(11, "His AGE as a DECADE ends (0: UNBORN, too).");
        CenturyPosts x = Check.with("c1;d0221;d0231");
        Check.rows(x, "age(0, *) = 0 0 0 1 1 2 2", "age(1, *) = 0 0 1 1 2 2 3 3", "age(*, 39) = 2 3");
        Check.says(11, "UNKNOWN; OUTSIDE.");
        Check.rows(x, "age(-1|2|MIN|MAX, -1|0|39|40) = UNKNOWN", "age(0|1, -1|40|MIN|MAX) = OUTSIDE");
    }

    private static void empty() {
        Check.says(12, "POSTS that are EMPTY in a DECADE, as a set.");
        CenturyPosts x = Check.with("c4;d0011;d0012;d0013;d0014;d0025");
        Check.rows(x, "empty(*) = 0 0 2 6 14 14 15", "empty(39) = 15", "giveUp(3, 4) = 40", "empty(*) = 0 0 2 6 6 6 7", "empty(39) = 7");
        Check.says(12, "OUTSIDE; STATE: there is no LAND.");
        Check.rows(x, "empty(-1|40|MIN|MAX) = OUTSIDE");
        Check.rows(new CenturyPosts(), "empty(-1|40|MIN|MAX) = OUTSIDE", "empty(0|39) = STATE");
    }

    private static void empties() {
        Check.says(13, "EMPTY DECADES by one.");
        CenturyPosts x = Check.with("c4;d0011;d0012;d0013;d0014;d0025");
        Check.rows(x, "empties(*) = 0 0 1 3 6 9 13 17", "empties(39) = 145", "giveUp(0|1|2|3, 0) = 40", "empties(0|39) = 0");
        Check.rows(Check.with("c4;d0911;d0911", "refuse(0|1, true)"), "empties(*) = 4 8", "empties(39) = 160");
        Check.says(13, "OUTSIDE; STATE: there is no LAND.");
        Check.rows(x, "empties(-1|40|MIN|MAX) = OUTSIDE");
        Check.rows(new CenturyPosts(), "empties(-1|40|MIN|MAX) = OUTSIDE", "empties(0|39) = STATE");
        Check.says(0, "EMPTY DECADES by one: how many, of all POSTS together, up to it (it, too).");
        Check.rows(Check.with("c2;d0091;d0991"), "empty(*) = 2 3 2", "empties(*) = 1 3 4");
    }

    private static void awake() {
        Check.says(14, "Who is AWAKE in a DECADE, as a set.");
        CenturyPosts x = Check.with("c1;d0091;d0091;d0111;d0991;d0011;d0011");
        Check.rows(x, "awake(*) = 50 5 2 1", "refuse(0|1, true) = 1", "awake(0) = 35", "awake(8) = 3", "awake(9) = 0", "awake(39) = 0");
        Check.says(14, "OUTSIDE; STATE: there is no LAND.");
        Check.rows(x, "awake(-1|40|MIN|MAX) = OUTSIDE");
        Check.rows(new CenturyPosts(), "awake(-1|40|MIN|MAX) = OUTSIDE", "awake(0|39) = STATE");
    }

    private static void slept() {
        Check.says(15, "For how many DECADES a PERSON is ASLEEP up to one (it, too).");
        CenturyPosts x = Check.with("c1;d0022;d0231;d0091");
        Check.rows(x, "guard(0, *) = 0 0 1 0 0 1 2 NONE", "slept(0, *) = 1 2 2 3 4 4 4", "slept(1, *) = 0 0 1 1 1 2 2 2", "slept(2, *) = 0 0 0 0 0 0 1 1");
        Check.says(15, "UNKNOWN; OUTSIDE.");
        Check.rows(x, "slept(-1|3|MIN|MAX, -1|0|39|40) = UNKNOWN", "slept(0|2, -1|40|MIN|MAX) = OUTSIDE");
    }
}
