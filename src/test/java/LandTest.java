/** Part 1 of the document and promises 1 to 8: the land and what is ordered in it. */
public final class LandTest {
    private static final String TWO = "c2;d0093;h1194";
    private static final String SIX = "c4;d0011;h0122;e0233;d0944;h0999;e0511";

    public static void main(String[] args) {
        newObject();
        howManyPosts();
        howManyPersons();
        everyCodeAtEveryPlace();
        firstOfWrongCodes();
        endsTooSoon();
        codes();
        kinds();
        sleeps();
        sleepsOnEnd();
        takenMakesAnew();
        anewAlsoWhereThereWasMore();
        landAnswers();
        landRefuses();
        ofPerson();
        law();
        refuse();
        will();
        burn();
        giveUp();
        Check.end();
    }

    private static void newObject() {
        Check.says(1, "No LAND (no POSTS, PERSONS), SHEETS have nothing.");
        CenturyPosts x = new CenturyPosts();
        Check.rows(x, "many(*) = 0 0 0 0 0", "ofPerson(0, 0) = UNKNOWN", "guard(0, 0) = UNKNOWN", "law(0) = STATE", "laws() = STATE");
        Check.rows(x, "fault() = 0", "trace() = 0", "burn(0) = 0", "burn(1) = OUTSIDE", "back(0) = 0", "back(1) = OUTSIDE");
        Check.rows(x, "lose(0|1|2|3) = 0", "put(0|1|2|3, 0, 0) = NULL", "cell(0|1|2|3, 0, 0|1|2) = LOST", "fault() = 1", "land(0|1|2|3, 0, 0, 0) = NULL");
        Check.rows(new CenturyPosts(), "sheet(0, 0, 1) = 1", "cell(0, 0, 0) = 0", "many(0) = 0");
    }

    private static void wrongText(String text, int place) {
        CenturyPosts x = Check.with(TWO);
        Check.due("land of '" + text + "'", Check.landOf(x, text), -100 - place);
        Check.rows(x, "fault() = 0", "many(*) = 2 2");
    }

    private static void goodText(String text, int persons, int posts) {
        CenturyPosts x = new CenturyPosts();
        Check.due("land of '" + text + "'", Check.landOf(x, text), persons);
        Check.rows(x, "fault() = 0", "many(*) = " + persons + " " + posts);
    }

    private static void howManyPosts() {
        Check.says(0, "A LAND by a TEXT: c, a digit 1 .. 4 (POSTS, in a row, numbered from 0 on)");
        for (int posts = 1; posts <= 4; posts++) {
            goodText("c" + posts + ";d0011;d0011", 2, posts);
            Check.rows(Check.with("c" + posts + ";d0011;d0011"), "guard(0|" + (posts - 1) + ", 39) = NONE", "guard(-1|" + posts + ", 39) = UNKNOWN");
        }
        for (char wrong : "0/5:9;c".toCharArray()) wrongText("c" + wrong + ";d0011;d0011", 1);
    }

    private static void howManyPersons() {
        Check.says(0, "then 2 to 6 PERSONS, numbered from 0 on, each:");
        String text = "c1";
        for (int persons = 1; persons <= 7; persons++) {
            text += ";d00" + persons + "1";
            if (persons == 1) wrongText(text, 8);
            else if (persons == 7) wrongText(text, 38);
            else {
                goodText(text, persons, 1);
                Check.rows(Check.with(text), "ofPerson(0, 3) = 1", "ofPerson(" + (persons - 1) + ", 3) = " + persons, "ofPerson(" + persons + ", 3) = UNKNOWN");
            }
        }
    }

    private static String goingOn(int place, int posts) {
        if (place == 0) return "c";
        if (place == 1) return "1234";
        return new String[] {";", "dhe", "0123".substring(0, posts), "0123456789", "123456789", "123456789"}[(place - 2) % 6];
    }

    private static void everyCodeAtEveryPlace() {
        Check.says(0, "; and a letter, a digit 0 .. 3 (HOME: a POST that there is), a digit 0 .. 9 (BORN), a digit 1 .. 9 (LIVES), a digit 1 .. 9 (NAP).");
        for (int posts = 1; posts <= 4; posts++) {
            String text = "c" + posts + SIX.substring(2);
            for (int place = 0; place < text.length(); place++) {
                everyCode(text, place, goingOn(place, posts), -128);
                everyCode(text, place, goingOn(place, posts), 0);
            }
        }
    }

    /** 128 codes, so that one object has less than 512 calls. */
    private static void everyCode(String text, int place, String right, int from) {
        CenturyPosts x = new CenturyPosts();
        Check.write(x, 0, 0, text);
        for (int code = from; code < from + 128; code++) {
            Check.call(x, "put", 0, place, code);
            boolean goesOn = code > 0 && right.indexOf(code) >= 0;
            Check.due(text + " with " + code + " at " + place, Check.call(x, "land", 0, 0, 0, text.length()), goesOn ? 6 : -100 - place);
        }
    }

    private static void firstOfWrongCodes() {
        Check.says(0, "FIRST FAULT: the place (from 0 on) of the first code with which no TEXT goes on (the ; of a seventh PERSON);");
        wrongText("xxxxxxxxxxxxxx", 0);
        wrongText("c9;x9xxx;x0011", 1);
        wrongText("c2;d2001;x0011", 4);
        wrongText("c2;d0011,x0011", 8);
        wrongText("c2;d0011;d0010x", 13);
        wrongText("c2;x", 3);
        wrongText(TWO + "0", 14);
        wrongText(TWO + ";;", 15);
        wrongText(SIX + ";", 38);
        wrongText(SIX + ";d0011", 38);
        wrongText(SIX + "x", 38);
        CenturyPosts x = new CenturyPosts();
        Check.write(x, 1, 2, "zz" + TWO + "z");
        Check.rows(x, "land(1, 2, 2, 14) = 2", "land(1, 2, 2, 15) = -114", "land(1, 2, 1, 14) = -100", "put(1, 7, 120) = 1", "land(1, 2, 2, 14) = -105");
    }

    private static void endsTooSoon() {
        Check.says(0, "how many codes there are, if it just ends too soon.");
        CenturyPosts x = new CenturyPosts();
        Check.write(x, 1, 1, SIX);
        for (int n = 0; n <= 38; n++) {
            boolean whole = n >= 14 && (n - 2) % 6 == 0;
            Check.rows(x, "land(1, 1, 0, " + n + ") = " + (whole ? (n - 2) / 6 : -100 - n), "fault() = 0");
        }
        Check.rows(x, "land(1, 1, 38, 0) = -100", "many(0) = 6");
    }

    private static void codes() {
        Check.says(0, "(Codes: c 99, d 100, h 104, e 101, ; 59, digits 48 .. 57.)");
        int[] cells = {99, 49, 59, 100, 48, 48, 49, 57, 59, 104, 48, 57, 57, 49, 59, 101, 48, 53, 52, 51};
        for (int lane = 0; lane < 3; lane++) {
            CenturyPosts x = new CenturyPosts();
            Check.lay(x, 2, lane, cells);
            Check.rows(x, "land(2, " + lane + ", 0, 20) = 3", "ofPerson(0, *) = 0 0 0 1 9", "ofPerson(1, *) = 1 0 9 9 1", "ofPerson(2, *) = 2 0 5 4 3");
            Check.rows(x, "put(2, 0, 355) = 1", "land(2, " + lane + ", 0, 20) = " + (lane == 0 ? 3 : -100));
            Check.rows(x, "put(2, 0, 65635) = 1", "land(2, " + lane + ", 0, 20) = " + (lane == 2 ? -100 : 3));
            Check.rows(x, "put(2, 0, -157) = 1", "land(2, " + lane + ", 0, 20) = " + (lane == 0 ? 3 : -100));
        }
    }

    private static void kinds() {
        Check.says(0, "Kinds: 0 DREAMER (d); 1 HEAVY (h), a DREAMER; 2 ENCHANTED (e), a HEAVY.");
        CenturyPosts x = Check.with("c1;e0011;d0011;h0011");
        Check.rows(x, "ofPerson(*, 0) = 2 0 1", "as(*, 0) = 1 1 1", "as(*, 1) = 1 CAST 1", "as(*, 2) = 1 CAST CAST");
    }

    private static void sleeps() {
        Check.says(0, "SLEEP, in DECADES: of a DREAMER his NAP; of a HEAVY one 2 more; of an ENCHANTED one twice what a HEAVY one's is.");
        for (int nap = 1; nap <= 9; nap++) {
            CenturyPosts x = Check.with("c1;d001" + nap + ";h001" + nap + ";e001" + nap);
            Check.rows(x, "ofPerson(0|1|2, 4) = " + nap, "ofPerson(*, 5) = " + nap + " " + (nap + 2) + " " + (2 * nap + 4));
        }
    }

    private static void sleepsOnEnd() {
        Check.says(0, "of an ENCHANTED one twice what a HEAVY one's is.");
        Check.rows(Check.with("c1;d0019;d0111"), "refuse(1, true)", "slept(0, 39) = 9", "how(0, *) = 2 2 2 2 2 2 2 2 2 1 3");
        Check.rows(Check.with("c1;h0019;d0111"), "refuse(1, true)", "slept(0, 39) = 11", "how(0, 10) = 2", "how(0, 11) = 1", "how(0, 12) = 3");
        Check.rows(Check.with("c1;e0019;d0111"), "refuse(1, true)", "slept(0, 39) = 22", "how(0, 21) = 2", "how(0, 22) = 1", "how(0, 23) = 3");
        Check.rows(Check.with("c1;d0011;d0111"), "refuse(1, true)", "how(0, *) = 2 1 3");
        Check.rows(Check.with("c1;h0011;d0111"), "refuse(1, true)", "how(0, *) = 2 2 2 1 3");
        Check.rows(Check.with("c1;e0011;d0111"), "refuse(1, true)", "how(0, *) = 2 2 2 2 2 2 1 3");
    }

    private static void takenMakesAnew() {
        Check.says(0, "A TEXT that is taken makes all anew: the LAW is 0, nobody REFUSES, no WILLS, no POST is GIVEN UP, no READINGS.");
        CenturyPosts x = Check.with(TWO);
        String[] orders = {"law(2) = 0", "refuse(0|1, true) = 1", "will(0, 1, 1) = 0", "giveUp(0|1, 0) = 40", "reading(0, 0, 1) = 0", "tell(0)"};
        Check.rows(x, orders);
        Check.rows(x, "laws() = 0", "land(3, 0, 0, 13) = -113", "many(*) = 2 2 1 1 2", "ofPerson(0|1, 6) = 1", "giveUp(0|1, 0) = 0", "laws() = 0");
        Check.rows(x, "land(3, 0, 0, 14) = 2", "many(*) = 2 2 0 0 0", "ofPerson(0|1, 6) = 0", "guard(0, *) = 0 0 0 NONE 0", "laws() = 7", "giveUp(0|1, 40) = 40");
        Check.rows(x, "trace() = 1", "cell(3, 0, 0) = 99");
        Check.rows(x, orders);
    }

    private static void anewAlsoWhereThereWasMore() {
        Check.says(0, "nobody REFUSES, no WILLS, no POST is GIVEN UP, no READINGS.");
        CenturyPosts x = Check.with(SIX, "refuse(5, true) = 1", "giveUp(3, 0) = 40", "will(0, 1, 0) = 0", "reading(3, 0, 0) = 0", "empties(39)", "help(0)", "fewest(0)");
        Check.due("a smaller land", Check.landOf(x, "c1;d0091;d0092"), 2);
        Check.rows(x, "many(*) = 2 1 0 0 0", "ofPerson(2|5, 6) = UNKNOWN", "giveUp(1|3, 0) = UNKNOWN", "guard(0, *) = 0 1 1 0", "fewest(0) = 1", "laws() = 7");
        Check.due("a larger land", Check.landOf(x, SIX), 6);
        Check.rows(x, "ofPerson(5, 6) = 0", "giveUp(3, 40) = 40", "many(*) = 6 4 0 0 0");
    }

    private static void landAnswers() {
        Check.says(2, "A LAND by a TEXT of n cells of a SHEET from i on, taken as a row of a LANE: how many PERSONS; -100 less the FIRST FAULT.");
        for (int lane = 0; lane < 3; lane++) {
            CenturyPosts x = new CenturyPosts();
            Check.write(x, lane + 1, lane, "zz" + TWO + ";d0011");
            String row = "land(" + (lane + 1) + ", " + lane + ", ";
            Check.rows(x, row + "2, 20) = 3", row + "2, 14) = 2", row + "2, 19) = -119", row + "2, 0) = -100", row + "22, 0) = -100",
                row + "0, 22) = -100", row + "1, 14) = -100", row + "3, 14) = -100", "many(0) = 2");
        }
        CenturyPosts x = new CenturyPosts();
        Check.write(x, 0, 0, "012345678901234567890" + SIX + "z");
        Check.rows(x, "land(0, 0, 21, 38) = 6", "cell(0, 59, 0) = 122");
    }

    private static void landFault(CenturyPosts x, String call, int fault) {
        Check.rows(x, call + " = " + (-10 - fault), "fault() = " + fault, "many(*) = 2 2");
    }

    private static void landRefuses() {
        Check.says(2, "UNKNOWN; OUTSIDE: lane; CAST (nothing is no CAST); NULL; SIZE: n below 0; INDEX; -100 less it.");
        CenturyPosts x = Check.with(TWO, "as(0, 2) = CAST");
        Check.rows(x, "land(-1|4, -1|3, -1, -1) = UNKNOWN", "fault() = 0", "as(0, 2) = CAST", "land(0|3, -1|3, -1, -1) = OUTSIDE", "fault() = 0");
        landFault(x, "land(3, 1|2, -1, -1)", 2);
        landFault(x, "land(0, 0|1|2, -1, -1)", 1);
        landFault(x, "land(3, 0, -1, -1|MIN)", 4);
        landFault(x, "land(3, 0, -1|15|MIN|MAX, 0|1|14|MAX)", 3);
        landFault(x, "land(3, 0, 0, 15|MAX)", 3);
        landFault(x, "land(3, 0, 1, 14|MAX)", 3);
        landFault(x, "land(3, 0, 14, 1|MAX)", 3);
        Check.rows(x, "put(3, 0, 0) = 1");
        landFault(x, "land(3, 0, 0, 15)", 3);
        Check.rows(x, "land(3, 0, 0, 14) = -100", "fault() = 0", "land(3, 0, 14, 0) = -100");
    }

    private static void ofPerson() {
        Check.says(3, "Of a PERSON: 0 kind, 1 HOME, 2 BORN, 3 what he LIVES, 4 NAP, 5 SLEEP, 6 whether he REFUSES (1, 0).");
        CenturyPosts x = Check.with("c4;d0091;h1289;e2917;d3562");
        Check.rows(x, "ofPerson(0, *) = 0 0 0 9 1 1 0", "ofPerson(1, *) = 1 1 2 8 9 11 0", "ofPerson(2, *) = 2 2 9 1 7 18 0", "ofPerson(3, *) = 0 3 5 6 2 2 0");
        Check.rows(x, "refuse(0|2, true) = 1", "ofPerson(*, 6) = 1 0 1 0");
        Check.says(3, "UNKNOWN; OUTSIDE.");
        Check.rows(x, "ofPerson(-1|4|MIN|MAX, -1|0|6|7) = UNKNOWN", "ofPerson(0|3, -1|7|MIN|MAX) = OUTSIDE");
    }

    private static void law() {
        Check.says(4, "The LAW becomes v: what it was.");
        CenturyPosts x = Check.with("c2;d0193;d0092;d1093", "giveUp(1, 0) = 40");
        Check.rows(x, "guard(0, 2) = 0", "law(1) = 0", "many(4) = 1", "guard(0, 2) = 2", "law(2) = 1", "many(4) = 2", "guard(0, 2) = 0", "law(2) = 2");
        x = Check.with("c2;d1193;d0092;d0093", "giveUp(1, 0) = 40");
        Check.rows(x, "guard(0, 2) = 0", "law(2) = 0", "guard(0, 2) = 2", "law(1) = 2", "guard(0, 2) = 2", "law(0) = 1", "guard(0, 2) = 0", "law(0) = 0");
        Check.says(4, "OUTSIDE; STATE: there is no LAND.");
        Check.rows(x, "law(1) = 0", "law(-1|3|MIN|MAX) = OUTSIDE", "many(4) = 1");
        Check.rows(new CenturyPosts(), "law(-1|3|MIN|MAX) = OUTSIDE", "law(0|1|2) = STATE", "many(4) = 0");
    }

    private static void refuse() {
        Check.says(5, "A PERSON REFUSES (true), or not: 1; 0: it was so.");
        CenturyPosts x = Check.with(TWO);
        Check.rows(x, "refuse(0|1, false) = 0", "refuse(0, true) = 1", "refuse(0, true) = 0", "ofPerson(*, 6) = 1 0", "guard(0, *) = NONE 1 1", "how(0, 0) = 1",
            "refuse(1, true) = 1", "ofPerson(*, 6) = 1 1", "guard(0, 1) = NONE", "refuse(0, false) = 1", "refuse(0, false) = 0", "ofPerson(*, 6) = 0 1", "guard(0, 0) = 0");
        Check.says(5, "UNKNOWN.");
        Check.rows(x, "refuse(-1|2|MIN|MAX, true|false) = UNKNOWN", "ofPerson(*, 6) = 0 1");
    }

    private static void will() {
        Check.says(6, "A WILL: its number.");
        CenturyPosts x = Check.with(TWO);
        Check.rows(x, "will(0, *, 39) = 0 1", "will(1, *, 39) = 2 3", "many(2) = 4", "burn(3) = 1", "will(1, 1, *) = 1 2 3 4 5", "many(2) = 6");
        Check.rows(Check.with("c1;d0091;d0091"), "will(0, 1, 0) = 0", "guard(0, *) = 1 0 1");
        Check.rows(Check.with("c1;d0099;d0999"), "refuse(0, true)", "will(0, 1, 39) = 0", "will(0, 1, 0) = 1", "guard(0, 0) = NONE");
        Check.says(6, "UNKNOWN: POST, PERSON; OUTSIDE: decade; FULL.");
        Check.rows(x, "will(-1|2|MIN|MAX, 0, 40) = UNKNOWN", "will(0, -1|2|NONE|MIN|MAX, 40) = UNKNOWN", "will(0, 0, -1|40|MIN|MAX) = OUTSIDE",
            "will(0|1, 0|1, 0|39) = FULL", "many(2) = 6");
        Check.rows(Check.with(TWO), "will(2, 0, 0) = UNKNOWN", "will(0, 2, 0) = UNKNOWN", "will(0, 0, 40) = OUTSIDE", "many(2) = 0");
    }

    private static void burn() {
        Check.says(7, "The last k WILLS (0 .. as many as there are) are burnt: how many are left.");
        CenturyPosts x = Check.with("c1;d0092;d0092;d0092");
        Check.rows(x, "will(0, 1, 0) = 0", "will(0, 2, 2) = 1", "guard(0, *) = 1 1 2", "burn(0) = 2", "guard(0, *) = 1 1 2",
            "burn(1) = 1", "guard(0, *) = 1 1 0", "burn(1) = 0", "guard(0, *) = 0 0 1", "burn(0) = 0");
        Check.rows(x, "will(0, 2, 39) = 0", "will(0, 2, *) = 1 2 3 4 5", "guard(0, 0) = 2", "burn(6) = 0", "many(2) = 0", "guard(0, 0) = 0");
        Check.says(7, "OUTSIDE.");
        Check.rows(x, "burn(-1|1|MIN|MAX) = OUTSIDE", "will(0, 2, *) = 0 1", "burn(-1|3|MIN|MAX) = OUTSIDE", "many(2) = 2", "burn(2) = 0");
        Check.rows(new CenturyPosts(), "burn(0) = 0", "burn(-1|1) = OUTSIDE");
    }

    private static void giveUp() {
        Check.says(8, "A POST is GIVEN UP from a DECADE on (40: never): from which it was (40).");
        CenturyPosts x = Check.with("c2;d0991;d0991");
        Check.rows(x, "giveUp(0, 0) = 40", "giveUp(0, 39) = 0", "empty(38) = 3", "empty(39) = 2", "giveUp(0, 40) = 39", "empty(39) = 3", "giveUp(0, 40) = 40",
            "giveUp(1, 1) = 40", "empty(*) = 3 1 1", "giveUp(1, 0) = 1", "empty(0) = 1", "giveUp(0, 0) = 40", "empties(39) = 0");
        Check.says(8, "UNKNOWN; OUTSIDE: 0 .. 40.");
        Check.rows(x, "giveUp(-1|2|MIN|MAX, -1|0|40|41) = UNKNOWN", "giveUp(0|1, -1|41|MIN|MAX) = OUTSIDE", "giveUp(0|1, 40) = 0");
    }
}
