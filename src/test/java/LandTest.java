/** Promises 1 to 8: the land and what is ordered in it. */
public final class LandTest {
    private static final String TWO = "c2;d0093;h1194";

    public static void main(String[] args) {
        newObject();
        goodTexts();
        firstFaults();
        refusalsOfLand();
        faultsOfLand();
        landMakesAnew();
        persons();
        lawsSet();
        refusing();
        willsAndBurning();
        givingUp();
        Check.end();
    }

    private static void newObject() {
        CenturyPosts x = new CenturyPosts();
        for (int what = 0; what < 5; what++) Check.due("new: many", x.many(what), 0);
        for (int k = 0; k < 4; k++) Check.due("new: lose", x.lose(k), 0);
        Check.due("new: fault", x.fault(), 0);
        Check.due("new: trace", x.trace(), 0);
        Check.due("new: ofPerson", x.ofPerson(0, 0), -1);
        Check.due("new: refuse", x.refuse(0, true), -1);
        Check.due("new: will", x.will(0, 0, 0), -1);
        Check.due("new: giveUp", x.giveUp(0, 0), -1);
        Check.due("new: guard", x.guard(0, 0), -1);
        Check.due("new: how", x.how(0, 0), -1);
        Check.due("new: age", x.age(0, 0), -1);
        Check.due("new: slept", x.slept(0, 0), -1);
        Check.due("new: reading", x.reading(0, 0, -9), -1);
        Check.due("new: named", x.named(0, 0), -1);
        Check.due("new: tell", x.tell(0), -1);
        Check.due("new: rouse", x.rouse(0), -1);
        Check.due("new: as", x.as(0, 0), -1);
        Check.due("new: burn", x.burn(0), 0);
        Check.due("new: burn 1", x.burn(1), -2);
        Check.due("new: back", x.back(0), 0);
        Check.due("new: back 1", x.back(1), -2);
        Check.due("new: law", x.law(2), -3);
        Check.due("new: law outside", x.law(3), -2);
        Check.due("new: empty", x.empty(39), -3);
        Check.due("new: empty outside", x.empty(40), -2);
        Check.due("new: empties", x.empties(0), -3);
        Check.due("new: empties outside", x.empties(-1), -2);
        Check.due("new: awake", x.awake(0), -3);
        Check.due("new: awake outside", x.awake(40), -2);
        Check.due("new: fewest", x.fewest(0), -3);
        Check.due("new: fewest outside", x.fewest(40), -2);
        Check.due("new: help", x.help(1), -3);
        Check.due("new: help outside", x.help(2), -2);
        Check.due("new: laws", x.laws(), -3);
        Check.due("new: stubborn", x.stubborn(), -3);
        Check.due("new: opened", x.opened(), -3);
        Check.due("new: odds", x.odds(0, 0), Long.MIN_VALUE);
        Check.due("new: wills", x.wills(0, 0, 0, 0), -3);
    }

    private static void goodTexts() {
        CenturyPosts x = new CenturyPosts();
        for (int lane = 0; lane < 3; lane++) {
            Check.write(x, lane, lane, "xx" + TWO + "y");
            Check.due("land in the middle", x.land(lane, lane, 2, TWO.length()), 2);
            Check.due("fault of a good text", x.fault(), 0);
        }
        String six = "c4;d0011;h1122;e2233;d3944;h0999;e1511";
        Check.due("six persons", Check.landOf(x, six), 6);
        Check.due("four posts", x.many(1), 4);
        Check.due("one post", Check.landOf(x, "c1;d0011;d0011"), 2);
        Check.due("one post", x.many(1), 1);
    }

    private static void wrongText(String text, int place) {
        CenturyPosts x = Check.with(TWO);
        Check.due("land of '" + text + "'", Check.landOf(x, text), -100 - place);
        Check.due("fault of '" + text + "'", x.fault(), 0);
        Check.due("the old land stays", x.many(0) * 10 + x.many(1), 22);
    }

    private static void firstFaults() {
        wrongText("", 0);
        wrongText("c", 1);
        wrongText("c2", 2);
        wrongText("x", 0);
        wrongText("C2", 0);
        wrongText("c0", 1);
        wrongText("c5", 1);
        wrongText("c2d", 2);
        wrongText("c2;", 3);
        wrongText("c2;f", 3);
        wrongText("c2;d", 4);
        wrongText("c2;d2", 4);
        wrongText("c1;d1011", 4);
        wrongText("c4;d4011", 4);
        wrongText("c4;d/011", 4);
        wrongText("c2;d0/11", 5);
        wrongText("c2;d0:11", 5);
        wrongText("c2;d0001", 6);
        wrongText("c2;d00:1", 6);
        wrongText("c2;d0010", 7);
        wrongText("c2;d001:", 7);
        wrongText("c2;d0011", 8);
        wrongText("c2;d0011x", 8);
        wrongText("c2;d0011;", 9);
        wrongText("c2;d0011;d00", 12);
        wrongText(TWO + ";", 15);
        wrongText(TWO + "0", 14);
        wrongText(TWO + ";d001", 19);
        String six = "c4;d0011;h1122;e2233;d3944;h0999;e1511";
        wrongText(six + ";", 38);
        wrongText(six + ";d0011", 38);
        wrongText(six + "x", 38);
    }

    private static void refusalsOfLand() {
        CenturyPosts x = Check.with(TWO);
        x.put(3, 99, 0);
        Check.due("unknown sheet", x.land(-1, 9, -1, -1), -1);
        Check.due("a refusal is no fault", x.fault(), 0);
        Check.due("unknown sheet", x.land(4, 0, 0, 14), -1);
        Check.due("lane below", x.land(0, -1, 0, -1), -2);
        Check.due("lane above", x.land(3, 3, 0, 14), -2);
    }

    private static void faultsOfLand() {
        CenturyPosts x = Check.with(TWO);
        landFault(x, 3, 1, -1, -1, 2);
        landFault(x, 0, 1, -1, -1, 1);
        landFault(x, 3, 0, -1, -1, 4);
        landFault(x, 3, 0, -1, 1, 3);
        landFault(x, 3, 0, 15, 0, 3);
        landFault(x, 3, 0, 0, 15, 3);
        landFault(x, 3, 0, 1, Integer.MAX_VALUE, 3);
        landFault(x, 3, 0, Integer.MAX_VALUE, 1, 3);
        Check.due("no cell at the end", x.land(3, 0, 14, 0), -100);
        Check.due("no fault then", x.fault(), 0);
    }

    private static void landFault(CenturyPosts x, int sheet, int lane, int i, int n, int want) {
        Check.due("land(" + sheet + ", " + lane + ", " + i + ", " + n + ")", x.land(sheet, lane, i, n), -10 - want);
        Check.due("its fault", x.fault(), want);
        Check.due("the land stays", x.many(0), 2);
    }

    private static void landMakesAnew() {
        CenturyPosts x = Check.with(TWO);
        x.law(2);
        x.refuse(1, true);
        x.will(0, 0, 0);
        x.giveUp(1, 0);
        x.reading(0, 0, 0);
        x.tell(0);
        Check.due("a wrong text", x.land(3, 0, 0, 13), -113);
        Check.due("changes no law", x.many(4), 2);
        Check.due("changes no wills", x.many(2), 1);
        Check.due("changes no readings", x.many(3), 1);
        Check.due("changes no refusing", x.ofPerson(1, 6), 1);
        Check.due("the text again", x.land(3, 0, 0, 14), 2);
        Check.due("law anew", x.many(4), 0);
        Check.due("wills anew", x.many(2), 0);
        Check.due("readings anew", x.many(3), 0);
        Check.due("refusing anew", x.ofPerson(1, 6), 0);
        Check.due("given up anew", x.giveUp(1, 40), 40);
        Check.due("the trace is not of the land", x.trace(), 1);
        Check.due("the sheet stays", x.cell(3, 0, 0), 'c');
        x.giveUp(0, 0);
        x.empties(39);
        x.land(3, 0, 0, 14);
        Check.due("decades anew", x.guard(0, 0), 0);
    }

    private static void persons() {
        CenturyPosts x = Check.with("c3;d0197;h1285;e2969");
        int[][] want = {{0, 0, 1, 9, 7, 7, 0}, {1, 1, 2, 8, 5, 7, 0}, {2, 2, 9, 6, 9, 22, 0}};
        for (int p = 0; p < 3; p++) {
            for (int what = 0; what < 7; what++) Check.due("ofPerson " + p + " " + what, x.ofPerson(p, what), want[p][what]);
            Check.due("ofPerson what", x.ofPerson(p, 7), -2);
            Check.due("ofPerson what", x.ofPerson(p, -1), -2);
        }
        Check.due("no such person", x.ofPerson(3, 0), -1);
        Check.due("no such person", x.ofPerson(-1, 9), -1);
    }

    private static void lawsSet() {
        CenturyPosts x = Check.with("c2;d1091;d0091");
        Check.due("by law 0", x.guard(0, 0), 0);
        Check.due("law was 0", x.law(2), 0);
        Check.due("by law 2", x.guard(0, 0), 1);
        Check.due("law was 2", x.law(1), 2);
        Check.due("by law 1", x.guard(0, 0), 0);
        Check.due("law 3", x.law(3), -2);
        Check.due("law -1", x.law(-1), -2);
        Check.due("the law stays", x.many(4), 1);
        Check.due("law was 1", x.law(0), 1);
        Check.due("law was 0", x.law(0), 0);
    }

    private static void refusing() {
        CenturyPosts x = Check.with(TWO);
        Check.due("it was so", x.refuse(0, false), 0);
        Check.due("refuses", x.refuse(0, true), 1);
        Check.due("it was so", x.refuse(0, true), 0);
        Check.due("told of him", x.ofPerson(0, 6), 1);
        Check.due("nobody at the post", x.guard(0, 0), -9);
        Check.due("awake", x.how(0, 0), 1);
        Check.due("no more", x.refuse(0, false), 1);
        Check.due("told of him", x.ofPerson(0, 6), 0);
        Check.due("he sleeps", x.guard(0, 0), 0);
        Check.due("no such person", x.refuse(2, true), -1);
        Check.due("no such person", x.refuse(-1, true), -1);
    }

    private static void willsAndBurning() {
        CenturyPosts x = Check.with(TWO);
        Check.due("will: post", x.will(2, 0, 40), -1);
        Check.due("will: post", x.will(-1, 0, 0), -1);
        Check.due("will: person", x.will(0, 2, 40), -1);
        Check.due("will: person", x.will(0, -9, 0), -1);
        Check.due("will: decade", x.will(0, 0, 40), -2);
        Check.due("will: decade", x.will(0, 0, -1), -2);
        for (int k = 0; k < 6; k++) Check.due("will", x.will(1, 1, 39), k);
        Check.due("full", x.will(1, 1, 39), -4);
        Check.due("outside ahead of full", x.will(1, 1, 40), -2);
        Check.due("burn -1", x.burn(-1), -2);
        Check.due("burn 7", x.burn(7), -2);
        Check.due("burn 0", x.burn(0), 6);
        Check.due("burn 2", x.burn(2), 4);
        Check.due("left", x.many(2), 4);
        Check.due("the next number", x.will(0, 0, 0), 4);
        Check.due("burn all", x.burn(5), 0);
        x = Check.with("c1;d0091;d0091");
        x.will(0, 1, 0);
        Check.due("by the will", x.guard(0, 0), 1);
        x.burn(1);
        Check.due("it is burnt", x.guard(0, 0), 0);
        x.will(0, 1, 0);
        x.will(0, 0, 0);
        x.burn(1);
        Check.due("the last is burnt", x.guard(0, 0), 1);
    }

    private static void givingUp() {
        CenturyPosts x = Check.with(TWO);
        Check.due("giveUp: post", x.giveUp(2, 41), -1);
        Check.due("giveUp: post", x.giveUp(-1, 0), -1);
        Check.due("giveUp: decade", x.giveUp(0, 41), -2);
        Check.due("giveUp: decade", x.giveUp(0, -1), -2);
        Check.due("it was never", x.giveUp(0, 0), 40);
        Check.due("nobody there", x.guard(0, 0), -9);
        Check.due("it is not empty", x.empty(0) & 1, 0);
        Check.due("it was 0", x.giveUp(0, 39), 0);
        Check.due("it was 39", x.giveUp(0, 40), 39);
        Check.due("it is never", x.giveUp(0, 40), 40);
        Check.due("the other one", x.giveUp(1, 5), 40);
    }
}
