/** All that can be seen of an object but fault(), as a text; what it asks uses the object up. */
final class Snapshot {
    private static final int[] LANES = {0, 1, 2};
    private final CenturyPosts x;
    private final StringBuilder told = new StringBuilder();

    private Snapshot(CenturyPosts x) {
        this.x = x;
    }

    static String of(CenturyPosts x) {
        Snapshot s = new Snapshot(x);
        s.parts();
        s.guards(40);
        s.givenUp();
        s.readings();
        s.wills();
        s.sheets();
        return s.told.toString();
    }

    private long add(String name, int... numbers) {
        long answer = Check.call(x, name, numbers);
        told.append(Check.told(name, numbers)).append(' ').append(answer).append("; ");
        return answer;
    }

    private void parts() {
        add("trace");
        for (int what = 0; what < 5; what++) add("many", what);
        for (int p = 0; p < x.many(0); p++) {
            for (int what = 0; what < 7; what++) add("ofPerson", p, what);
        }
    }

    private void guards(int decades) {
        for (int post = 0; post < x.many(1); post++) {
            for (int d = 0; d < decades; d++) add("guard", post, d);
        }
    }

    private void givenUp() {
        for (int post = 0; post < x.many(1); post++) Check.call(x, "giveUp", post, (int) add("giveUp", post, 40));
    }

    /** What the readings are is seen only by what they rule out: one by one they are taken back. */
    private void readings() {
        for (int left = x.many(3); left >= 0; left--) {
            add("laws");
            add("stubborn");
            add("opened");
            if (left > 0) add("back", 1);
        }
    }

    private void wills() {
        for (int left = x.many(2); left > 0; left--) {
            add("burn", 1);
            guards(10);
        }
    }

    private void sheets() {
        for (int k = 0; k < 4; k++) {
            for (int lane : LANES) {
                for (int i = 0; i < 60 && add("cell", k, i, lane) != CenturyPosts.LOST; i++) continue;
            }
            add("lose", k);
        }
    }
}
