import java.util.ArrayList;
import java.util.List;
import java.util.function.Predicate;

/**
 * The document once more, for comparison: slow, with a new world for every question, nothing kept
 * between calls, and no code shared with the class that is tested.
 */
final class Model {
    record Sleeper(int number, char letter, int home, int born, int lives, int nap) {
        int kind() { return "dhe".indexOf(letter); }
        int sleep() {
            if (letter == 'd') return nap;
            if (letter == 'h') return nap + 2;
            return (nap + 2) * 2;
        }
    }

    record Will(int post, int person, int decade) { }

    record Reading(int post, int decade, int person) { }

    /** All that a world hangs on; never changed once made. */
    record Rules(int law, List<Boolean> refuse, List<Will> wills, List<Integer> givenUp) {
        Rules withLaw(int v) { return new Rules(v, refuse, wills, givenUp); }
        Rules withRefuse(List<Boolean> r) { return new Rules(law, r, wills, givenUp); }
        Rules withWills(List<Will> w) { return new Rules(law, refuse, w, givenUp); }
        Rules withGivenUp(List<Integer> g) { return new Rules(law, refuse, wills, g); }
    }

    static final class Life {
        Sleeper who;
        String state = "UNBORN";
        int age = 0;
        int began = -1;
        int post = -1;
        boolean waked = false;
    }

    /** One world, all 40 decades. */
    final class World {
        final int[][] guard = new int[posts][40];
        final boolean[][] empty = new boolean[posts][40];
        final int[][] how = new int[people.size()][40];
        final int[][] age = new int[people.size()][40];

        World(Rules rules) {
            List<Life> lives = new ArrayList<>();
            for (Sleeper s : people) {
                Life life = new Life();
                life.who = s;
                lives.add(life);
            }
            for (int d = 0; d < 40; d++) decade(rules, lives, d);
        }

        private void decade(Rules rules, List<Life> lives, int d) {
            for (Life l : lives) {
                l.waked = false;
                if (l.state.equals("UNBORN") && l.who.born() == d) l.state = "AWAKE";
                if (l.state.equals("ASLEEP") && d - l.began == l.who.sleep()) {
                    l.state = "AWAKE";
                    l.waked = true;
                    l.post = -1;
                }
            }
            for (int post = 0; post < posts; post++) {
                final int here = post;
                boolean taken = lives.stream().anyMatch(l -> l.post == here);
                if (!taken && rules.givenUp().get(post) > d) {
                    Life l = choose(rules, lives, post, d);
                    if (l == null) empty[post][d] = true;
                    else {
                        l.state = "ASLEEP";
                        l.began = d;
                        l.post = post;
                    }
                }
                guard[post][d] = -9;
                for (Life l : lives) if (l.post == post) guard[post][d] = l.who.number();
            }
            for (Life l : lives) {
                how[l.who.number()][d] = List.of("UNBORN", "AWAKE", "ASLEEP", "DEAD").indexOf(l.state);
                if (l.state.equals("AWAKE")) {
                    l.age++;
                    if (l.age == l.who.lives()) l.state = "DEAD";
                }
                age[l.who.number()][d] = l.age;
            }
        }

        private Life choose(Rules rules, List<Life> lives, int post, int d) {
            List<Life> able = new ArrayList<>();
            for (Life l : lives) {
                if (l.state.equals("AWAKE") && !l.waked && !rules.refuse().get(l.who.number())) able.add(l);
            }
            for (Will w : rules.wills()) {
                if (w.post() != post || w.decade() != d) continue;
                for (Life l : able) if (l.who.number() == w.person()) return l;
            }
            if (able.isEmpty()) return null;
            able.sort((a, b) -> {
                int order = 0;
                if (rules.law() == 1) order = b.age - a.age;
                if (rules.law() == 2) order = Math.abs(a.who.home() - post) - Math.abs(b.who.home() - post);
                return order != 0 ? order : a.who.number() - b.who.number();
            });
            return able.get(0);
        }

        int empties(int decade) {
            int n = 0;
            for (boolean[] row : empty) for (int d = 0; d <= decade; d++) if (row[d]) n++;
            return n;
        }
    }

    int posts = 0;
    List<Sleeper> people = new ArrayList<>();
    Rules rules = new Rules(0, List.of(), List.of(), List.of());
    List<Reading> readings = new ArrayList<>();
    final Object[] sheets = new Object[4];
    int fault = 0;
    int trace = 0;

    private static int length(Object row) {
        if (row instanceof byte[] b) return b.length;
        if (row instanceof short[] s) return s.length;
        return ((int[]) row).length;
    }

    private static int lane(Object row) {
        return row instanceof byte[] ? 0 : row instanceof short[] ? 1 : 2;
    }

    private static int get(Object row, int i) {
        if (row instanceof byte[] b) return b[i];
        if (row instanceof short[] s) return s[i];
        return ((int[]) row)[i];
    }

    private static Object row(int lane, int n) {
        return lane == 0 ? new byte[n] : lane == 1 ? (Object) new short[n] : new int[n];
    }

    private static void set(Object row, int i, int v) {
        if (row instanceof byte[] b) b[i] = (byte) v;
        else if (row instanceof short[] s) s[i] = (short) v;
        else ((int[]) row)[i] = v;
    }

    private int fail(int which) {
        fault = which;
        return -10 - which;
    }

    private static boolean in(int v, int count) {
        return 0 <= v && v < count;
    }

    private static boolean beyond(Object row, long i, long n) {
        return i < 0 || n < 0 || i > length(row) || i + n > length(row);
    }

    int land(int sheet, int lane, int i, int n) {
        fault = 0;
        if (!in(sheet, 4)) return -1;
        if (!in(lane, 3)) return -2;
        Object row = sheets[sheet];
        if (row != null && lane(row) != lane) return fail(2);
        if (row == null) return fail(1);
        if (n < 0) return fail(4);
        if (beyond(row, i, n)) return fail(3);
        StringBuilder text = new StringBuilder();
        for (int k = 0; k < n; k++) {
            int code = get(row, i + k);
            text.append(code > 0 && code < 128 ? (char) code : '?');
        }
        return take(text.toString());
    }

    /** A text is tried as the beginning of a text, code by code, by patterns. */
    private int take(String text) {
        int right = 0;
        while (right < text.length() && begins(text.substring(0, right + 1))) right++;
        if (right < text.length()) return -100 - right;
        if (!text.matches("c[1-4](;[dhe][0-3][0-9][1-9][1-9]){2,6}")) return -100 - text.length();
        posts = text.charAt(1) - '0';
        people = new ArrayList<>();
        List<Boolean> nobody = new ArrayList<>();
        String[] parts = text.split(";");
        for (int k = 1; k < parts.length; k++) {
            String part = parts[k];
            people.add(new Sleeper(k - 1, part.charAt(0), part.charAt(1) - '0', part.charAt(2) - '0', part.charAt(3) - '0', part.charAt(4) - '0'));
            nobody.add(false);
        }
        List<Integer> never = new ArrayList<>();
        for (int k = 0; k < posts; k++) never.add(40);
        rules = new Rules(0, nobody, List.of(), never);
        readings = new ArrayList<>();
        return people.size();
    }

    private static boolean begins(String start) {
        if (start.length() > 38) return false;
        String filler = "c1;d0011;d0011;d0011;d0011;d0011;d0011".substring(start.length());
        String text = start + filler;
        char most = (char) (text.charAt(1) - 1);
        if (most < '0' || most > '3') return false;
        return text.matches("c.(;[dhe][0-" + most + "][0-9][1-9][1-9]){6}");
    }

    private boolean isPerson(int p) { return in(p, people.size()); }

    private boolean isPost(int p) { return in(p, posts); }

    int ofPerson(int p, int what) {
        if (!isPerson(p)) return -1;
        if (!in(what, 7)) return -2;
        Sleeper s = people.get(p);
        int[] all = {s.kind(), s.home(), s.born(), s.lives(), s.nap(), s.sleep(), rules.refuse().get(p) ? 1 : 0};
        return all[what];
    }

    int law(int v) {
        if (!in(v, 3)) return -2;
        if (posts == 0) return -3;
        int was = rules.law();
        rules = rules.withLaw(v);
        return was;
    }

    int refuse(int p, boolean is) {
        if (!isPerson(p)) return -1;
        boolean was = rules.refuse().get(p);
        rules = rules.withRefuse(with(rules.refuse(), p, is));
        return was == is ? 0 : 1;
    }

    private static <T> List<T> with(List<T> list, int k, T v) {
        List<T> other = new ArrayList<>(list);
        other.set(k, v);
        return other;
    }

    private static <T> List<T> plus(List<T> list, T v) {
        List<T> other = new ArrayList<>(list);
        other.add(v);
        return other;
    }

    int will(int post, int p, int decade) {
        if (!isPost(post) || !isPerson(p)) return -1;
        if (!in(decade, 40)) return -2;
        if (rules.wills().size() == 6) return -4;
        rules = rules.withWills(plus(rules.wills(), new Will(post, p, decade)));
        return rules.wills().size() - 1;
    }

    int burn(int k) {
        int size = rules.wills().size();
        if (!in(k, size + 1)) return -2;
        rules = rules.withWills(new ArrayList<>(rules.wills().subList(0, size - k)));
        return size - k;
    }

    int giveUp(int post, int decade) {
        if (!isPost(post)) return -1;
        if (!in(decade, 41)) return -2;
        int was = rules.givenUp().get(post);
        rules = rules.withGivenUp(with(rules.givenUp(), post, decade));
        return was;
    }

    int guard(int post, int decade) {
        if (!isPost(post)) return -1;
        if (!in(decade, 40)) return -2;
        return new World(rules).guard[post][decade];
    }

    int how(int p, int decade) {
        if (!isPerson(p)) return -1;
        if (!in(decade, 40)) return -2;
        return new World(rules).how[p][decade];
    }

    int age(int p, int decade) {
        if (!isPerson(p)) return -1;
        if (!in(decade, 40)) return -2;
        return new World(rules).age[p][decade];
    }

    int empty(int decade) {
        if (!in(decade, 40)) return -2;
        if (posts == 0) return -3;
        World w = new World(rules);
        return set(posts, k -> w.empty[k][decade]);
    }

    int empties(int decade) {
        if (!in(decade, 40)) return -2;
        if (posts == 0) return -3;
        return new World(rules).empties(decade);
    }

    int awake(int decade) {
        if (!in(decade, 40)) return -2;
        if (posts == 0) return -3;
        World w = new World(rules);
        return set(people.size(), p -> w.how[p][decade] == 1);
    }

    int slept(int p, int decade) {
        if (!isPerson(p)) return -1;
        if (!in(decade, 40)) return -2;
        World w = new World(rules);
        int n = 0;
        for (int d = 0; d <= decade; d++) if (w.how[p][d] == 2) n++;
        return n;
    }

    private static int set(int count, Predicate<Integer> is) {
        int bits = 0;
        for (int k = 0; k < count; k++) if (is.test(k)) bits += 1 << k;
        return bits;
    }

    private List<Boolean> refusing(int bits) {
        List<Boolean> all = new ArrayList<>();
        for (int p = 0; p < people.size(); p++) all.add((bits >> p & 1) == 1);
        return all;
    }

    private boolean neverEmpty(int refusing, int decade) {
        return new World(rules.withRefuse(refusing(refusing))).empties(decade) == 0;
    }

    int fewest(int decade) {
        if (!in(decade, 40)) return -2;
        if (posts == 0) return -3;
        int all = (1 << people.size()) - 1;
        for (int size = 0; size <= people.size(); size++) {
            for (int willing = 0; willing <= all; willing++) {
                if (Integer.bitCount(willing) == size && neverEmpty(all ^ willing, decade)) return willing;
            }
        }
        return -9;
    }

    int help(int what) {
        if (!in(what, 2)) return -2;
        if (posts == 0) return -3;
        int now = new World(rules).empties(39);
        int least = now;
        int best = -9;
        for (int post = 0; post < posts; post++) {
            for (int p = 0; p < people.size(); p++) {
                for (int d = 0; d < 40; d++) {
                    int then = new World(rules.withWills(plus(rules.wills(), new Will(post, p, d)))).empties(39);
                    if (then < least) {
                        least = then;
                        best = post * 1000 + p * 100 + d;
                    }
                }
            }
        }
        return what == 0 ? best : least;
    }

    int wills(int sheet, int lane, int i, int n) {
        fault = 0;
        if (!in(sheet, 4)) return -1;
        if (!in(lane, 3) || !in(n, 7)) return -2;
        if (posts == 0) return -3;
        Object row = sheets[sheet];
        if (row != null && lane(row) != lane) return fail(2);
        if (row == null) return fail(1);
        if (beyond(row, i, 3L * n)) return fail(3);
        List<Will> told = new ArrayList<>();
        for (int k = 0; k < n; k++) {
            Will w = new Will(get(row, i + 3 * k), get(row, i + 3 * k + 1), get(row, i + 3 * k + 2));
            if (!isPost(w.post()) || !isPerson(w.person()) || !in(w.decade(), 40)) return -2;
            told.add(w);
        }
        return new World(rules.withWills(told)).empties(39);
    }

    int reading(int post, int decade, int p) {
        if (!isPost(post) || p != -9 && !isPerson(p)) return -1;
        if (!in(decade, 40)) return -2;
        if (readings.size() == 8) return -4;
        readings.add(new Reading(post, decade, p));
        return readings.size() - 1;
    }

    int back(int k) {
        if (!in(k, readings.size() + 1)) return -2;
        for (int j = 0; j < k; j++) readings.remove(readings.size() - 1);
        return readings.size();
    }

    private boolean so(Rules other) {
        World w = new World(other);
        return readings.stream().allMatch(r -> w.guard[r.post()][r.decade()] == r.person());
    }

    int laws() {
        return posts == 0 ? -3 : set(3, v -> so(rules.withLaw(v)));
    }

    int stubborn() {
        return posts == 0 ? -3 : set(people.size(), p -> so(rules.withRefuse(with(rules.refuse(), p, true))));
    }

    int named(int post, int decade) {
        if (!isPost(post)) return -1;
        if (!in(decade, 40)) return -2;
        return set(people.size(), p -> so(rules.withWills(plus(rules.wills(), new Will(post, p, decade)))));
    }

    int opened() {
        return posts == 0 ? -3 : set(posts, k -> so(rules.withGivenUp(with(rules.givenUp(), k, 40))));
    }

    long odds(int decade, int which) {
        if (!in(decade, 40) || !in(which, 2) || posts == 0) return Long.MIN_VALUE;
        int all = 1 << people.size();
        int good = 0;
        for (int r = 0; r < all; r++) if (neverEmpty(r, decade)) good++;
        int common = java.math.BigInteger.valueOf(good).gcd(java.math.BigInteger.valueOf(all)).intValue();
        return which == 0 ? good / common : all / common;
    }

    int sheet(int k, int lane, int n) {
        fault = 0;
        if (!in(k, 4)) return -1;
        if (!in(lane, 3) || n > 60) return -2;
        if (n < 0) return fail(4);
        sheets[k] = row(lane, n);
        return 1;
    }

    int lose(int k) {
        if (!in(k, 4)) return -1;
        int had = sheets[k] == null ? 0 : 1;
        sheets[k] = null;
        return had;
    }

    int put(int k, int i, int v) {
        fault = 0;
        if (!in(k, 4)) return -1;
        if (sheets[k] == null) return fail(1);
        if (!in(i, length(sheets[k]))) return fail(3);
        set(sheets[k], i, v);
        return 1;
    }

    long cell(int k, int i, int lane) {
        fault = 0;
        if (!in(k, 4) || !in(lane, 3)) return Long.MIN_VALUE;
        if (sheets[k] != null && lane(sheets[k]) != lane) fail(2);
        else if (sheets[k] == null) fail(1);
        else if (!in(i, length(sheets[k]))) fail(3);
        return fault != 0 ? Long.MIN_VALUE : get(sheets[k], i);
    }

    int copy(int k, int i, int other, int j, int n) {
        fault = 0;
        if (!in(k, 4) || !in(other, 4)) return -1;
        if (sheets[k] == null || sheets[other] == null) return fail(1);
        if (lane(sheets[k]) != lane(sheets[other])) return fail(2);
        if (beyond(sheets[k], i, n) || beyond(sheets[other], j, n)) return fail(3);
        int[] taken = new int[n];
        for (int c = 0; c < n; c++) taken[c] = get(sheets[k], i + c);
        for (int c = 0; c < n; c++) set(sheets[other], j + c, taken[c]);
        return n;
    }

    private void leave(int... numbers) {
        for (int number : numbers) trace = trace * 31 + number;
    }

    int tell(int p) {
        if (!isPerson(p)) return -1;
        int nap = people.get(p).nap();
        int kind = people.get(p).kind();
        if (kind == 0) leave(1);
        if (kind == 1) leave(2, 1);
        if (kind == 2) leave(3, 2, 1, 1);
        return kind == 0 ? nap : kind == 1 ? nap + 100 : nap + 100 + nap;
    }

    int rouse(int p) {
        if (!isPerson(p)) return -1;
        boolean own = people.get(p).letter() == 'e';
        leave(own ? 5 : 4);
        return own ? 70 : p;
    }

    int as(int p, int kind) {
        fault = 0;
        if (!isPerson(p)) return -1;
        if (!in(kind, 3)) return -2;
        return "d".equals("dhe".substring(kind, kind + 1)) || people.get(p).kind() == 2 || people.get(p).kind() == kind ? 1 : fail(2);
    }

    int many(int what) {
        if (!in(what, 5)) return -2;
        int[] all = {people.size(), posts, rules.wills().size(), readings.size(), rules.law()};
        return all[what];
    }
}
