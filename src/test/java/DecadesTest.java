/** Promises 9 to 15: how the decades go. The answers due were worked out by hand from the document. */
public final class DecadesTest {
    public static void main(String[] args) {
        twoByTurns();
        unbornAndKinds();
        lawOldest();
        lawNearest();
        willsChoose();
        wakedMayNotLieDown();
        refusersAge();
        givenUpPosts();
        refusals();
        Check.end();
    }

    private static void twoByTurns() {
        CenturyPosts x = Check.with("c1;d0021;d0031");
        Check.row("turns", x, "guard", 0, 0, 1, 0, 1, -9, -9);
        Check.row("turns", x, "how", 0, 2, 1, 2, 1, 3, 3);
        Check.row("turns", x, "how", 1, 1, 2, 1, 2, 1, 3);
        Check.row("turns", x, "age", 0, 0, 1, 1, 2, 2, 2);
        Check.row("turns", x, "age", 1, 1, 1, 2, 2, 3, 3);
        Check.row("turns", x, "slept", 0, 1, 1, 2, 2, 2, 2);
        Check.row("turns", x, "slept", 1, 0, 1, 1, 2, 2, 2);
        Check.row("turns", x, "empty", 0, 0, 0, 0, 0, 1, 1);
        Check.row("turns", x, "empties", 0, 0, 0, 0, 0, 1, 2);
        Check.row("turns", x, "awake", 0, 2, 1, 2, 1, 2, 0);
        Check.due("all empties", x.empties(39), 36);
        Check.due("the last decade", x.empty(39), 1);
        Check.due("slept in all", x.slept(1, 39), 2);
    }

    private static void unbornAndKinds() {
        CenturyPosts x = Check.with("c2;h0232;e1311");
        Check.row("kinds", x, "how", 0, 0, 0, 2, 2, 2, 2, 1, 2, 2, 2, 2, 1, 2);
        Check.row("kinds", x, "age", 0, 0, 0, 0, 0, 0, 0, 1, 1, 1, 1, 1, 2, 2);
        Check.row("kinds", x, "how", 1, 0, 0, 0, 2, 2, 2, 2, 2, 2, 1, 3);
        Check.row("kinds", x, "age", 1, 0, 0, 0, 0, 0, 0, 0, 0, 0, 1, 1);
        Check.row("kinds", x, "guard", 0, -9, -9, 0, 0, 0, 0, -9, 0);
        Check.row("kinds", x, "guard", 1, -9, -9, -9, 1, 1, 1, 1, 1, 1, -9);
        Check.row("kinds", x, "empty", 0, 3, 3, 2, 0, 0, 0, 1, 0, 0, 2);
        Check.row("kinds", x, "empties", 0, 2, 4, 5, 5, 5, 5, 6, 6, 6, 7);
    }

    private static void lawOldest() {
        CenturyPosts x = Check.with("c1;d0193;d0092;d0093");
        Check.due("law 0, the least number", x.guard(0, 2), 0);
        x.law(1);
        Check.due("law 1, alike", x.guard(0, 0), 1);
        Check.due("law 1, the oldest", x.guard(0, 2), 2);
    }

    private static void lawNearest() {
        CenturyPosts x = Check.with("c4;d3095;d0095;d2095;d0095;d2095");
        Check.row("law 0", x, "guard", 3, 3);
        x.law(2);
        Check.row("law 2", x, "guard", 0, 1);
        Check.row("law 2", x, "guard", 1, 2);
        Check.row("law 2", x, "guard", 2, 4);
        Check.row("law 2", x, "guard", 3, 0);
        Check.due("who is left", x.awake(0), 8);
    }

    private static void willsChoose() {
        CenturyPosts x = Check.with("c2;d0092;d0092;d0092;d0992");
        x.will(1, 3, 0);
        x.will(0, 2, 1);
        x.will(0, 2, 0);
        x.will(0, 1, 0);
        x.will(1, 2, 0);
        x.will(1, 1, 0);
        Check.due("the first that can be", x.guard(0, 0), 2);
        Check.due("one who lies already is passed", x.guard(1, 0), 1);
        x.refuse(2, true);
        Check.due("one who refuses is passed", x.guard(0, 0), 1);
        Check.due("then the law", x.guard(1, 0), 0);
        x.refuse(2, false);
        x.law(1);
        Check.due("wills go ahead of law 1", x.guard(0, 0), 2);
        x.law(2);
        Check.due("wills go ahead of law 2", x.guard(0, 0), 2);
    }

    private static void wakedMayNotLieDown() {
        CenturyPosts x = Check.with("c1;d0091;d0291");
        x.will(0, 0, 1);
        Check.row("waked", x, "guard", 0, 0, -9, 0, 1);
        Check.row("waked", x, "how", 0, 2, 1, 2, 1);
        Check.row("waked", x, "awake", 0, 0, 1, 2, 1);
    }

    private static void refusersAge() {
        CenturyPosts x = Check.with("c1;d0022;d0029");
        x.refuse(1, true);
        Check.row("refusing", x, "awake", 0, 2, 2, 1, 0, 0, 1);
        Check.row("refusing", x, "how", 1, 1, 1, 3);
        Check.row("refusing", x, "age", 1, 1, 2, 2);
        Check.row("refusing", x, "guard", 0, 0, 0, -9, 0, 0, -9);
        Check.row("refusing", x, "age", 0, 0, 0, 1, 1, 1, 2);
        Check.row("refusing", x, "how", 0, 2, 2, 1, 2, 2, 1, 3);
        x.refuse(0, true);
        Check.row("all refuse", x, "awake", 0, 3, 3, 0);
        Check.row("all refuse", x, "empty", 0, 1, 1, 1);
    }

    private static void givenUpPosts() {
        CenturyPosts x = Check.with("c2;d0093;d0093");
        x.giveUp(0, 1);
        Check.row("given up", x, "guard", 0, 0, 0, 0, -9, -9);
        Check.row("given up", x, "guard", 1, 1, 1, 1, -9, 0);
        Check.row("given up", x, "empty", 0, 0, 0, 0, 2, 0);
        Check.row("given up", x, "empties", 0, 0, 0, 0, 1, 1);
        x.giveUp(0, 3);
        Check.row("given up at the wake", x, "empty", 0, 0, 0, 0, 2, 0);
        x.giveUp(0, 4);
        Check.row("given up one behind", x, "empty", 0, 0, 0, 0, 3, 0);
    }

    private static void refusals() {
        CenturyPosts x = Check.with("c2;d0093;d0093");
        int[] wrongDecades = {-1, 40, Integer.MIN_VALUE, Integer.MAX_VALUE};
        for (int d : wrongDecades) {
            Check.due("guard decade", x.guard(0, d), -2);
            Check.due("how decade", x.how(0, d), -2);
            Check.due("age decade", x.age(0, d), -2);
            Check.due("slept decade", x.slept(0, d), -2);
            Check.due("empty decade", x.empty(d), -2);
            Check.due("empties decade", x.empties(d), -2);
            Check.due("awake decade", x.awake(d), -2);
        }
        for (int k : new int[] {-1, 2, -9}) {
            Check.due("guard post", x.guard(k, 40), -1);
            Check.due("how person", x.how(k, 40), -1);
            Check.due("age person", x.age(k, 40), -1);
            Check.due("slept person", x.slept(k, 40), -1);
        }
    }
}
