/** Promises 16 to 25: the fewest, help, wills told, readings, odds. */
public final class WhatIfTest {
    public static void main(String[] args) {
        fewestAndOdds();
        fewestByGivenUp();
        fewestWhereAllAreTooMany();
        helping();
        helpWhereThereAreSix();
        helpOfSeveral();
        willsTold();
        refusalsOfWillsTold();
        readingsKept();
        laws();
        stubborn();
        stubbornByTheLaw();
        oddsAsTheFirstCall();
        named();
        opened();
        Check.end();
    }

    private static void oddsAre(CenturyPosts x, int decade, long upper, long lower) {
        Check.due("odds upper by " + decade, x.odds(decade, 0), upper);
        Check.due("odds lower by " + decade, x.odds(decade, 1), lower);
    }

    private static void fewestAndOdds() {
        CenturyPosts x = Check.with("c1;d0021;d0031");
        Check.due("fewest, of several the least", x.fewest(0), 1);
        Check.due("fewest", x.fewest(1), 3);
        Check.due("fewest", x.fewest(3), 3);
        Check.due("fewest, not by all", x.fewest(4), -9);
        oddsAre(x, 0, 3, 4);
        oddsAre(x, 1, 1, 4);
        oddsAre(x, 4, 0, 1);
        x.refuse(0, true);
        Check.due("who refuses now is willing then", x.fewest(0), 1);
        oddsAre(x, 0, 3, 4);
        Check.due("it changes nothing", x.ofPerson(0, 6), 1);
        Check.due("fewest -1", x.fewest(-1), -2);
        Check.due("fewest 40", x.fewest(40), -2);
        Check.due("odds -1", x.odds(-1, 0), Long.MIN_VALUE);
        Check.due("odds 40", x.odds(40, 0), Long.MIN_VALUE);
        Check.due("odds which -1", x.odds(0, -1), Long.MIN_VALUE);
        Check.due("odds which 2", x.odds(0, 2), Long.MIN_VALUE);
        x.put(0, 0, 0);
        x.odds(0, 9);
        Check.due("odds names no fault", x.fault(), 1);
    }

    private static void fewestByGivenUp() {
        CenturyPosts x = Check.with("c2;d0011;d0011");
        Check.due("both", x.fewest(0), 3);
        oddsAre(x, 0, 1, 4);
        x.giveUp(0, 0);
        Check.due("one is enough", x.fewest(0), 1);
        oddsAre(x, 0, 3, 4);
        x.giveUp(1, 0);
        Check.due("nobody is needed", x.fewest(39), 0);
        oddsAre(x, 39, 1, 1);
    }

    /** By all, 0 sleeps up to 5 and 1 is dead by 3, so that 6 is empty; 1 alone sleeps up to 7. */
    private static void fewestWhereAllAreTooMany() {
        CenturyPosts x = Check.with("c1;h0014;d0038");
        Check.due("by all", x.empties(6), 1);
        Check.due("by either", x.fewest(5), 1);
        Check.due("by fewer", x.fewest(6), 2);
        oddsAre(x, 5, 3, 4);
        oddsAre(x, 6, 1, 4);
        oddsAre(x, 7, 1, 4);
        oddsAre(x, 8, 0, 1);
    }

    private static void helping() {
        CenturyPosts x = Check.with("c1;d0019;d0099");
        Check.due("now", x.empties(39), 31);
        Check.due("help", x.help(0), 100);
        Check.due("empties then", x.help(1), 4);
        Check.due("nothing is changed", x.empties(39), 31);
        Check.due("no will is made", x.many(2), 0);
        x.will(0, 0, 0);
        Check.due("a will ahead settles it", x.help(0), -9);
        Check.due("as now", x.help(1), 31);
        x.burn(1);
        x.refuse(0, true);
        Check.due("nothing helps", x.help(0), -9);
        Check.due("as now", x.help(1), 4);
        Check.due("help -1", x.help(-1), -2);
        Check.due("help 2", x.help(2), -2);
    }

    private static void helpWhereThereAreSix() {
        CenturyPosts x = Check.with("c1;d0019;d0099");
        for (int k = 0; k < 6; k++) x.will(0, 0, 39);
        Check.due("a seventh", x.help(0), 100);
        Check.due("a seventh", x.help(1), 4);
        Check.due("still six", x.many(2), 6);
        x.reading(0, 0, 1);
        Check.due("named by a seventh", x.named(0, 0), 2);
    }

    private static void helpOfSeveral() {
        CenturyPosts x = Check.with("c1;d0019;d0099;d0099");
        x.refuse(2, true);
        Check.due("who refuses does not help", x.help(0), 100);
        x.refuse(2, false);
        Check.due("of several persons the least", x.help(0), 100);
        Check.due("of several persons the least", x.help(1), 4);
        x.refuse(1, true);
        Check.due("the other person", x.help(0), 200);
        x = Check.with("c2;d0019;d0099");
        x.giveUp(0, 0);
        Check.due("another post", x.help(0), 1100);
        Check.due("another post", x.help(1), 4);
        x = Check.with("c1;d0419;d0499");
        Check.due("another decade", x.help(0), 104);
        Check.due("another decade", x.help(1), 7);
    }

    private static void tellWills(CenturyPosts x, int sheet, int lane, int... cells) {
        x.sheet(sheet, lane, cells.length);
        for (int i = 0; i < cells.length; i++) x.put(sheet, i, cells[i]);
    }

    private static void willsTold() {
        CenturyPosts x = Check.with("c1;d0019;d0099");
        for (int lane = 0; lane < 3; lane++) {
            tellWills(x, 0, lane, 7, 0, 1, 0, 0, 0, 0);
            Check.due("told", x.wills(0, lane, 1, 1), 4);
            Check.due("the first goes ahead", x.wills(0, lane, 1, 2), 4);
            Check.due("the other one", x.wills(0, lane, 4, 1), 31);
            Check.due("none", x.wills(0, lane, 1, 0), 31);
            Check.due("none at the end", x.wills(0, lane, 7, 0), 31);
        }
        Check.due("they are not kept", x.many(2), 0);
        x.will(0, 1, 0);
        Check.due("in place of all", x.wills(0, 2, 0, 0), 31);
        Check.due("what was stays", x.empties(39), 4);
        Check.due("what was stays", x.many(2), 1);
        tellWills(x, 1, 1, 0, 0, 9, 0, 0, 9, 0, 0, 9, 0, 0, 9, 0, 0, 9, 0, 1, 0);
        Check.due("six", x.wills(1, 1, 0, 6), 4);
        x.refuse(1, true);
        Check.due("who refuses now refuses", x.wills(1, 1, 0, 6), 31);
    }

    private static void refusalsOfWillsTold() {
        CenturyPosts x = new CenturyPosts();
        Check.due("sheet", x.wills(4, 3, 0, 7), -1);
        Check.due("sheet", x.wills(-1, 3, 0, 7), -1);
        Check.due("lane", x.wills(0, 3, 0, 1), -2);
        Check.due("lane", x.wills(0, -1, 0, 1), -2);
        Check.due("n", x.wills(0, 0, 0, 7), -2);
        Check.due("n", x.wills(0, 0, 0, -1), -2);
        Check.due("no land", x.wills(0, 0, -1, 1), -3);
        Check.due("a refusal is no fault", x.fault(), 0);
        Check.landOf(x, "c1;d0019;d0099");
        tellWills(x, 1, 1, 0, 1, 39, 1, 0, 0, 0, 2, 0, 0, 0, 40, -1, 0, -1);
        told(x, 1, 0, -1, 1, -12, 2);
        told(x, 0, 0, -1, 1, -11, 1);
        told(x, 1, 1, -1, 0, -13, 3);
        told(x, 1, 1, 16, 0, -13, 3);
        told(x, 1, 1, 13, 1, -13, 3);
        told(x, 1, 1, 0, 6, -13, 3);
        told(x, 1, 1, Integer.MAX_VALUE, 6, -13, 3);
        told(x, 1, 1, 3, 1, -2, 0);
        told(x, 1, 1, 6, 1, -2, 0);
        told(x, 1, 1, 9, 1, -2, 0);
        told(x, 1, 1, 12, 1, -2, 0);
        told(x, 1, 1, 11, 1, -2, 0);
        told(x, 1, 1, 0, 2, -2, 0);
        told(x, 1, 1, 0, 1, 31, 0);
    }

    private static void told(CenturyPosts x, int sheet, int lane, int i, int n, int want, int fault) {
        Check.due("wills(" + sheet + ", " + lane + ", " + i + ", " + n + ")", x.wills(sheet, lane, i, n), want);
        Check.due("its fault", x.fault(), fault);
    }

    private static void readingsKept() {
        CenturyPosts x = Check.with("c2;d0021;d0031");
        Check.due("post", x.reading(2, 40, 0), -1);
        Check.due("post", x.reading(-1, 0, 0), -1);
        Check.due("person", x.reading(0, 40, 2), -1);
        Check.due("person", x.reading(0, 0, -2), -1);
        Check.due("decade", x.reading(0, 40, 0), -2);
        Check.due("decade", x.reading(0, -1, -9), -2);
        for (int k = 0; k < 8; k++) Check.due("reading", x.reading(k % 2, k, k % 3 == 0 ? -9 : k % 3 - 1), k);
        Check.due("full", x.reading(0, 0, 0), -4);
        Check.due("outside ahead of full", x.reading(0, 40, 0), -2);
        Check.due("how many", x.many(3), 8);
        Check.due("back -1", x.back(-1), -2);
        Check.due("back 9", x.back(9), -2);
        Check.due("back 0", x.back(0), 8);
        Check.due("back 3", x.back(3), 5);
        Check.due("the next number", x.reading(0, 0, 0), 5);
        Check.due("back all", x.back(6), 0);
        Check.due("all laws again", x.laws(), 7);
    }

    private static void laws() {
        CenturyPosts x = Check.with("c1;d0193;d0092;d0093");
        Check.due("no readings", x.laws(), 7);
        x.reading(0, 2, 2);
        Check.due("law 1 alone", x.laws(), 2);
        Check.due("the law stays", x.many(4), 0);
        x.law(1);
        Check.due("law 1 alone", x.laws(), 2);
        x.reading(0, 0, 2);
        Check.due("none", x.laws(), 0);
        x.back(2);
        x.reading(0, 2, 0);
        Check.due("law 0 and 2", x.laws(), 5);
        x = Check.with("c2;d1091;d0091");
        x.reading(0, 0, 1);
        Check.due("law 2 alone", x.laws(), 4);
    }

    private static void stubborn() {
        CenturyPosts x = Check.with("c1;d0099;d0099;d0099");
        x.reading(0, 0, 1);
        Check.due("0 refuses", x.stubborn(), 1);
        Check.due("nobody does", x.ofPerson(0, 6), 0);
        x.refuse(0, true);
        Check.due("0 as it is, or 2, too", x.stubborn(), 5);
        x.refuse(1, true);
        Check.due("not any more", x.stubborn(), 0);
        x.back(1);
        Check.due("all", x.stubborn(), 7);
    }

    private static void stubbornByTheLaw() {
        CenturyPosts x = Check.with("c2;d1099;d0099;d0099");
        x.law(2);
        x.will(1, 1, 0);
        x.reading(0, 0, 2);
        x.reading(1, 0, 0);
        Check.due("1 refuses, by law 2 and in spite of the will", x.stubborn(), 2);
        x.law(0);
        Check.due("by law 0", x.stubborn(), 0);
    }

    private static void oddsAsTheFirstCall() {
        CenturyPosts x = Check.with("c2;d0099;d0099;d0099;d0099;d0099;d0099");
        oddsAre(x, 0, 57, 64);
        x.giveUp(0, 0);
        oddsAre(x, 0, 63, 64);
        x = Check.with("c4;d0099;d0099;d0099;d0099;d0099;d0099");
        Check.due("four of six", x.fewest(0), 15);
        oddsAre(x, 0, 11, 32);
    }

    private static void named() {
        CenturyPosts x = Check.with("c1;d0099;d0099;d0099");
        x.reading(0, 0, 1);
        Check.due("1 was named", x.named(0, 0), 2);
        Check.due("not then", x.named(0, 1), 0);
        x.will(0, 2, 0);
        Check.due("the first will goes ahead", x.named(0, 0), 0);
        x.back(1);
        x.reading(0, 0, 2);
        Check.due("whoever was named last", x.named(0, 0), 7);
        x.refuse(2, true);
        Check.due("he refuses", x.named(0, 0), 0);
        Check.due("post", x.named(1, 40), -1);
        Check.due("post", x.named(-1, 0), -1);
        Check.due("decade", x.named(0, 40), -2);
        Check.due("decade", x.named(0, -1), -2);
    }

    private static void opened() {
        CenturyPosts x = Check.with("c2;d0099;d0099");
        x.giveUp(0, 0);
        x.giveUp(1, 0);
        x.reading(1, 8, -9);
        Check.due("each alone: but 1 then has one", x.opened(), 1);
        x.back(1);
        x.reading(0, 0, 0);
        Check.due("0 opened", x.opened(), 1);
        x.giveUp(0, 40);
        Check.due("it is as it is", x.opened(), 3);
        x.reading(1, 0, -9);
        Check.due("0 as it is", x.opened(), 1);
        Check.due("nothing is opened", x.giveUp(1, 40), 0);
    }
}
