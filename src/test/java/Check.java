/** What the project's tests share: counting, and objects with a land. */
final class Check {
    private static int wrong = 0;
    private static int asked = 0;

    private Check() { }

    static void due(String what, long got, long want) {
        asked++;
        if (got == want) return;
        wrong++;
        System.out.println(what + " answered " + got + ", due is " + want);
    }

    static void holds(String what, boolean is) {
        due(what, is ? 1 : 0, 1);
    }

    static void end() {
        System.out.println(asked + " answers looked at, " + wrong + " not as due");
        if (wrong != 0) System.exit(1);
    }

    /** Writes a text to a new row of a sheet. */
    static void write(CenturyPosts x, int sheet, int lane, String text) {
        x.sheet(sheet, lane, text.length());
        for (int i = 0; i < text.length(); i++) x.put(sheet, i, text.charAt(i));
    }

    static int landOf(CenturyPosts x, String text) {
        write(x, 3, 0, text);
        return x.land(3, 0, 0, text.length());
    }

    static CenturyPosts with(String text) {
        CenturyPosts x = new CenturyPosts();
        holds("land of " + text, landOf(x, text) > 0);
        return x;
    }

    /** Asks one call for the decades from 0 on and joins the answers. */
    static void row(String what, CenturyPosts x, String call, int of, int... want) {
        for (int d = 0; d < want.length; d++) due(what + ": " + call + " of " + of + " in " + d, ask(x, call, of, d), want[d]);
    }

    private static int ask(CenturyPosts x, String call, int of, int decade) {
        switch (call) {
            case "guard": return x.guard(of, decade);
            case "how": return x.how(of, decade);
            case "age": return x.age(of, decade);
            case "slept": return x.slept(of, decade);
            case "empty": return x.empty(decade);
            case "empties": return x.empties(decade);
            case "awake": return x.awake(decade);
            default: throw new IllegalArgumentException(call);
        }
    }
}
