import java.lang.reflect.InvocationTargetException;
import java.lang.reflect.Method;
import java.util.ArrayList;
import java.util.HashMap;
import java.util.List;
import java.util.Map;
import java.util.WeakHashMap;

/**
 * What the project's tests share. A test begins with says(..), the words of the document that it looks at,
 * and goes on with rows of calls:
 *
 *   "law(2)"                     the call is made; any answer will do
 *   "law(3) = OUTSIDE"           the answer that is due
 *   "law(-1|3|MAX) = OUTSIDE"    each of these numbers in turn, the same answer
 *   "guard(0, *) = 1 1 NONE"     for * the numbers 0, 1, 2 in turn, an answer each
 */
final class Check {
    private static final Map<String, Long> WORDS = Map.ofEntries(
        Map.entry("UNKNOWN", -1L), Map.entry("OUTSIDE", -2L), Map.entry("STATE", -3L), Map.entry("FULL", -4L),
        Map.entry("NONE", -9L), Map.entry("NULL", -11L), Map.entry("CAST", -12L), Map.entry("INDEX", -13L),
        Map.entry("SIZE", -14L), Map.entry("LOST", Long.MIN_VALUE), Map.entry("MAX", (long) Integer.MAX_VALUE),
        Map.entry("MIN", (long) Integer.MIN_VALUE), Map.entry("true", 1L), Map.entry("false", 0L));
    /** Behind so many calls the document leaves all answers free: no test may look at them. */
    private static final int MOST_CALLS = 512;
    private static final Map<String, Method> FACE = new HashMap<>();
    private static final Map<CenturyPosts, Integer> CALLS_OF = new WeakHashMap<>();

    private static String sentence = "";
    private static int wrong = 0;
    private static int asked = 0;

    static {
        for (Method m : CenturyPosts.class.getMethods()) {
            if (m.getDeclaringClass() == CenturyPosts.class) FACE.put(m.getName(), m);
        }
    }

    private Check() { }

    /** A test of its own begins: for these words, which stand in that promise of the document (0: ahead of them). */
    static void says(int promise, String words) {
        sentence = (promise == 0 ? "Terms" : "Promise " + promise) + " \"" + words + "\": ";
    }

    static void due(String what, long got, long want) {
        asked++;
        if (got == want) return;
        wrong++;
        System.out.println(sentence + what + " answered " + got + ", due is " + want);
    }

    static void same(String what, String got, String want) {
        asked++;
        if (got.equals(want)) return;
        wrong++;
        System.out.println(sentence + what + ":\n  " + got + ", due is\n  " + want);
    }

    static void holds(String what, boolean is) {
        due(what, is ? 1 : 0, 1);
    }

    static void end() {
        System.out.println(asked + " answers looked at, " + wrong + " not as due");
        if (wrong != 0) System.exit(1);
    }

    /** Writes a text to a new row of a sheet. */
    static void write(CenturyPosts x, int sheet, int lane, String text) {
        int[] codes = text.chars().toArray();
        lay(x, sheet, lane, codes);
    }

    /** Writes numbers to a new row of a sheet. */
    static void lay(CenturyPosts x, int sheet, int lane, int... cells) {
        call(x, "sheet", sheet, lane, cells.length);
        for (int i = 0; i < cells.length; i++) call(x, "put", sheet, i, cells[i]);
    }

    /** Tells a land by sheet 3. */
    static long landOf(CenturyPosts x, String text) {
        write(x, 3, 0, text);
        return call(x, "land", 3, 0, 0, text.length());
    }

    static CenturyPosts with(String text, String... rows) {
        CenturyPosts x = new CenturyPosts();
        holds("land of " + text, landOf(x, text) > 0);
        rows(x, rows);
        return x;
    }

    static void rows(CenturyPosts x, String... rows) {
        for (String row : rows) row(x, row);
    }

    private static void row(CenturyPosts x, String row) {
        String[] sides = row.split("=");
        int open = sides[0].indexOf('(');
        String name = sides[0].substring(0, open).trim();
        String told = sides[0].substring(open + 1, sides[0].lastIndexOf(')')).trim();
        String[] arguments = told.isEmpty() ? new String[0] : told.split(",");
        String[] answers = sides.length < 2 ? new String[] {null} : sides[1].trim().split(" +");
        for (int k = 0; k < answers.length; k++) {
            for (int[] numbers : turns(arguments, k)) {
                long got = call(x, name, numbers);
                if (answers[k] != null) due(told(name, numbers), got, number(answers[k]));
            }
        }
    }

    /** All lists of arguments that a row means for the k-th answer. */
    private static List<int[]> turns(String[] arguments, int k) {
        List<int[]> lists = new ArrayList<>();
        lists.add(new int[arguments.length]);
        for (int a = 0; a < arguments.length; a++) {
            List<int[]> longer = new ArrayList<>();
            for (String one : arguments[a].trim().split("\\|")) {
                for (int[] list : lists) {
                    int[] other = list.clone();
                    other[a] = one.equals("*") ? k : (int) number(one);
                    longer.add(other);
                }
            }
            lists = longer;
        }
        return lists;
    }

    private static long number(String word) {
        Long known = WORDS.get(word);
        return known != null ? known : Long.parseLong(word);
    }

    static String told(String name, int... numbers) {
        StringBuilder b = new StringBuilder(name).append('(');
        for (int k = 0; k < numbers.length; k++) b.append(k == 0 ? "" : ", ").append(numbers[k]);
        return b.append(')').toString();
    }

    static long call(CenturyPosts x, String name, int... numbers) {
        Method m = FACE.get(name);
        Class<?>[] types = m.getParameterTypes();
        if (types.length != numbers.length) throw new IllegalArgumentException(told(name, numbers));
        Object[] values = new Object[numbers.length];
        for (int k = 0; k < numbers.length; k++) values[k] = types[k] == boolean.class ? (Object) (numbers[k] != 0) : (Object) numbers[k];
        int calls = CALLS_OF.merge(x, 1, Integer::sum);
        if (calls == MOST_CALLS + 1) due("calls of one object in " + told(name, numbers), calls, MOST_CALLS);
        try {
            return ((Number) m.invoke(x, values)).longValue();
        } catch (InvocationTargetException | IllegalAccessException thrown) {
            throw new IllegalStateException(sentence + told(name, numbers), thrown);
        }
    }
}
