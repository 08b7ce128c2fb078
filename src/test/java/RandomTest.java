import java.util.Random;

/** All promises: long runs of chosen and of wild calls, each answer compared with the model's. */
public final class RandomTest {
    private static final int RUNS = 6000;
    /** Behind 512 calls the document leaves all answers free; the dearest turn (a text) makes fewer than 64. */
    private static final int CALLS = 512 - 64;
    private static final int[] EDGES = {-1, -9, -2, 40, 41, 60, 61, 4, 6, 7, 8, 9, 100, -100, Integer.MAX_VALUE, Integer.MIN_VALUE};

    private final Random random;
    private final CenturyPosts x = new CenturyPosts();
    private final Model m = new Model();
    private final int wild;
    private String call = "";
    private int made = 0;

    private RandomTest(long seed) {
        random = new Random(seed);
        wild = seed % 4 == 0 ? 3 : 40;
    }

    public static void main(String[] args) {
        int wrong = 0;
        for (int run = 0; run < RUNS && wrong < 3; run++) wrong += new RandomTest(run).run(run) ? 0 : 1;
        Check.end();
    }

    /** False: an answer was not the model's (the run ends there). */
    private boolean run(int run) {
        StringBuilder told = new StringBuilder();
        for (int turn = 0; made <= CALLS; turn++) {
            boolean anew = turn == 9 || random.nextInt(90) == 0;
            long[] both = anew ? text() : next();
            made += 3;
            told.append(call).append(' ');
            if (both[0] != both[1]) {
                Check.due("run " + run + ": " + told, both[0], both[1]);
                return false;
            }
            if (x.fault() != m.fault || x.trace() != m.trace) {
                Check.due("run " + run + ": " + told + " fault()", x.fault(), m.fault);
                Check.due("run " + run + ": " + told + " trace()", x.trace(), m.trace);
                return false;
            }
        }
        Check.holds("run " + run, true);
        return true;
    }

    /** A number of 0 .. count - 1; now and then another one. */
    private int of(int count) {
        if (random.nextInt(wild) == 0) return EDGES[random.nextInt(EDGES.length)];
        return count < 1 ? 0 : random.nextInt(count);
    }

    private int person() { return of(m.people.size()); }

    private int post() { return of(m.posts); }

    private int decade() { return random.nextInt(3) == 0 ? of(12) : of(40); }

    private long[] pair(String name, long got, long want) {
        call = name;
        return new long[] {got, want};
    }

    private long[] text() {
        int posts = 1 + random.nextInt(4);
        StringBuilder b = new StringBuilder("c").append(posts);
        int persons = 2 + random.nextInt(5);
        for (int p = 0; p < persons; p++) {
            b.append(';').append("dhe".charAt(random.nextInt(3))).append(random.nextInt(posts)).append(random.nextInt(random.nextBoolean() ? 3 : 10));
            b.append(1 + random.nextInt(9)).append(1 + random.nextInt(random.nextBoolean() ? 3 : 9));
        }
        if (random.nextInt(6) == 0) b.setCharAt(random.nextInt(b.length()), "c;dhe0123456789x".charAt(random.nextInt(16)));
        if (random.nextInt(12) == 0) b.append(";d0011");
        if (random.nextInt(12) == 0) b.setLength(random.nextInt(b.length()));
        int k = random.nextInt(4);
        int lane = random.nextInt(3);
        int i = random.nextInt(10);
        x.sheet(k, lane, 60);
        m.sheet(k, lane, 60);
        made += 1 + b.length();
        for (int c = 0; c < b.length(); c++) {
            x.put(k, i + c, b.charAt(c));
            m.put(k, i + c, b.charAt(c));
        }
        return pair("land of " + b, x.land(k, lane, i, b.length()), m.land(k, lane, i, b.length()));
    }

    private long[] next() {
        switch (random.nextInt(12)) {
            case 0: return orders();
            case 1: return orders();
            case 2: return lying();
            case 3: return lying();
            case 4: return lying();
            case 5: return whatIf();
            case 6: return readings();
            case 7: return readings();
            case 8: return readings();
            case 9: return parts();
            default: return sheets();
        }
    }

    private long[] orders() {
        int a = post(), p = person(), d = decade();
        boolean is = random.nextBoolean();
        switch (random.nextInt(8)) {
            case 0: { int w = of(7); return pair("ofPerson(" + p + ", " + w + ")", x.ofPerson(p, w), m.ofPerson(p, w)); }
            case 1: { int v = of(3); return pair("law(" + v + ")", x.law(v), m.law(v)); }
            case 2: return pair("refuse(" + p + ", " + is + ")", x.refuse(p, is), m.refuse(p, is));
            case 3: { int k = of(4); return pair("burn(" + k + ")", x.burn(k), m.burn(k)); }
            case 4: { int g = of(41); return pair("giveUp(" + a + ", " + g + ")", x.giveUp(a, g), m.giveUp(a, g)); }
            default: return pair("will(" + a + ", " + p + ", " + d + ")", x.will(a, p, d), m.will(a, p, d));
        }
    }

    private long[] lying() {
        int a = post(), p = person(), d = decade();
        switch (random.nextInt(7)) {
            case 0: return pair("guard(" + a + ", " + d + ")", x.guard(a, d), m.guard(a, d));
            case 1: return pair("how(" + p + ", " + d + ")", x.how(p, d), m.how(p, d));
            case 2: return pair("age(" + p + ", " + d + ")", x.age(p, d), m.age(p, d));
            case 3: return pair("empty(" + d + ")", x.empty(d), m.empty(d));
            case 4: return pair("empties(" + d + ")", x.empties(d), m.empties(d));
            case 5: return pair("awake(" + d + ")", x.awake(d), m.awake(d));
            default: return pair("slept(" + p + ", " + d + ")", x.slept(p, d), m.slept(p, d));
        }
    }

    private long[] whatIf() {
        int d = decade();
        int w = of(2);
        switch (random.nextInt(8)) {
            case 0: return pair("help(" + w + ")", x.help(w), m.help(w));
            case 1: case 2: return pair("fewest(" + d + ")", x.fewest(d), m.fewest(d));
            case 3: case 4: return pair("odds(" + d + ", " + w + ")", x.odds(d, w), m.odds(d, w));
            default: return tellWills();
        }
    }

    private long[] tellWills() {
        int k = random.nextInt(4);
        int lane = random.nextInt(3);
        x.sheet(k, lane, 20);
        m.sheet(k, lane, 20);
        made += 19;
        StringBuilder cells = new StringBuilder();
        for (int c = 0; c < 18; c++) {
            int v = c % 3 == 0 ? post() : c % 3 == 1 ? person() : decade();
            cells.append(v).append(',');
            x.put(k, c + 2, v);
            m.put(k, c + 2, v);
        }
        int i = random.nextInt(9) == 0 ? of(20) : 2;
        int n = of(7);
        int as = random.nextInt(9) == 0 ? of(3) : lane;
        return pair("wills of " + cells + "(" + i + ", " + n + ")", x.wills(k, as, i, n), m.wills(k, as, i, n));
    }

    private long[] readings() {
        int a = post(), p = person(), d = decade();
        switch (random.nextInt(8)) {
            case 0: case 1: return reading(a, p, d);
            case 2: { int k = of(4); return pair("back(" + k + ")", x.back(k), m.back(k)); }
            case 3: return pair("laws()", x.laws(), m.laws());
            case 4: return pair("stubborn()", x.stubborn(), m.stubborn());
            case 5: return pair("opened()", x.opened(), m.opened());
            default: return pair("named(" + a + ", " + d + ")", x.named(a, d), m.named(a, d));
        }
    }

    /** Mostly what is so, by this law or another one: of readings at random none would be. */
    private long[] reading(int a, int p, int d) {
        int was = m.rules.law();
        if (random.nextInt(3) == 0) m.law(random.nextInt(3));
        int so = random.nextInt(5) == 0 ? p : m.guard(a, d);
        m.law(was);
        return pair("reading(" + a + ", " + d + ", " + so + ")", x.reading(a, d, so), m.reading(a, d, so));
    }

    private long[] parts() {
        int p = person();
        int v = of(5);
        switch (random.nextInt(4)) {
            case 0: return pair("tell(" + p + ")", x.tell(p), m.tell(p));
            case 1: return pair("rouse(" + p + ")", x.rouse(p), m.rouse(p));
            case 2: return pair("as(" + p + ", " + v + ")", x.as(p, v), m.as(p, v));
            default: return pair("many(" + v + ")", x.many(v), m.many(v));
        }
    }

    private long[] sheets() {
        int k = of(4), l = of(3), i = of(20), o = of(4), j = of(20), n = of(20);
        switch (random.nextInt(9)) {
            case 0: return pair("sheet(" + k + ", " + l + ", " + n + ")", x.sheet(k, l, n), m.sheet(k, l, n));
            case 1: return pair("lose(" + k + ")", x.lose(k), m.lose(k));
            case 2: case 3: { int v = random.nextInt() >> random.nextInt(32); return pair("put(" + k + ", " + i + ", " + v + ")", x.put(k, i, v), m.put(k, i, v)); }
            case 4: case 5: return pair("cell(" + k + ", " + i + ", " + l + ")", x.cell(k, i, l), m.cell(k, i, l));
            case 6: return pair("land(" + k + ", " + l + ", " + i + ", " + n + ")", x.land(k, l, i, n), m.land(k, l, i, n));
            default: return pair("copy(" + k + ", " + i + ", " + o + ", " + j + ", " + n + ")", x.copy(k, i, o, j, n), m.copy(k, i, o, j, n));
        }
    }
}
