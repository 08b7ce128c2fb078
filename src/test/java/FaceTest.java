import java.io.IOException;
import java.lang.reflect.Constructor;
import java.lang.reflect.Field;
import java.lang.reflect.Method;
import java.lang.reflect.Modifier;
import java.nio.file.Files;
import java.nio.file.Path;
import java.util.ArrayList;
import java.util.List;
import java.util.Map;
import java.util.Set;
import java.util.TreeMap;
import java.util.TreeSet;
import java.util.regex.Matcher;
import java.util.regex.Pattern;

/** The public face, and the rules of LANGUAGE.md that can be looked up in the source and the class. */
public final class FaceTest {
    private static final int MOST_DEEP = 8;
    private static final String FACE = "int land(int,int,int,int);int ofPerson(int,int);int law(int);int refuse(int,boolean);"
        + "int will(int,int,int);int burn(int);int giveUp(int,int);int guard(int,int);int how(int,int);int age(int,int);"
        + "int empty(int);int empties(int);int awake(int);int slept(int,int);int fewest(int);int help(int);"
        + "int wills(int,int,int,int);int reading(int,int,int);int back(int);int laws();int stubborn();int named(int,int);"
        + "int opened();long odds(int,int);int sheet(int,int,int);int lose(int);int put(int,int,int);long cell(int,int,int);"
        + "int copy(int,int,int,int,int);int tell(int);int rouse(int);int as(int,int);int trace();int fault();int many(int)";

    public static void main(String[] args) throws IOException, IllegalAccessException {
        face();
        constants();
        privateNames();
        nestedClasses();
        String text = Files.readString(Path.of("src/main/java/CenturyPosts.java"));
        source(text);
        methods(bare(text));
        Check.end();
    }

    private static String told(Method m) {
        List<String> of = new ArrayList<>();
        for (Class<?> c : m.getParameterTypes()) of.add(c.getSimpleName());
        return m.getReturnType().getSimpleName() + " " + m.getName() + "(" + String.join(",", of) + ")";
    }

    private static void face() {
        Set<String> want = new TreeSet<>(List.of(FACE.split(";")));
        Set<String> got = new TreeSet<>();
        for (Method m : CenturyPosts.class.getDeclaredMethods()) {
            if (!Modifier.isPrivate(m.getModifiers())) {
                got.add(told(m));
                Check.due("public, and no more, is " + m.getName(), m.getModifiers(), Modifier.PUBLIC);
            }
        }
        Check.holds("the methods of the face: " + got, got.equals(want));
        Check.due("public and final", CenturyPosts.class.getModifiers(), Modifier.PUBLIC | Modifier.FINAL);
        Constructor<?>[] all = CenturyPosts.class.getDeclaredConstructors();
        Check.due("constructors", all.length, 1);
        Check.due("it takes", all[0].getParameterCount(), 0);
        Check.due("it is public", all[0].getModifiers(), Modifier.PUBLIC);
    }

    private static void constants() throws IllegalAccessException {
        Set<String> got = new TreeSet<>();
        for (Field f : CenturyPosts.class.getDeclaredFields()) {
            if (Modifier.isPrivate(f.getModifiers())) continue;
            Check.due(f.getName() + " is", f.getModifiers(), Modifier.PUBLIC | Modifier.STATIC | Modifier.FINAL);
            got.add(f.getType() + " " + f.getName() + " " + f.get(null));
        }
        Set<String> want = Set.of("int UNKNOWN -1", "int OUTSIDE -2", "int STATE -3", "int FULL -4", "int NONE -9", "long LOST -9223372036854775808");
        Check.holds("the constants of the face: " + got, got.equals(want));
    }

    private static void privateNames() {
        Set<String> open = new TreeSet<>();
        for (Method m : CenturyPosts.class.getDeclaredMethods()) if (Modifier.isPublic(m.getModifiers())) open.add(m.getName());
        List<Class<?>> all = new ArrayList<>(List.of(CenturyPosts.class.getDeclaredClasses()));
        all.add(CenturyPosts.class);
        for (Class<?> c : all) {
            for (Method m : c.getDeclaredMethods()) {
                boolean ofFace = c == CenturyPosts.class && Modifier.isPublic(m.getModifiers());
                Check.holds(c.getSimpleName() + "." + m.getName() + " bears no public name", ofFace || !open.contains(m.getName()));
                Check.holds(m.getName() + " takes at most seven", m.getParameterCount() <= 7);
            }
        }
    }

    private static void nestedClasses() {
        Class<?>[] all = CenturyPosts.class.getDeclaredClasses();
        Check.holds("at most some twelve classes", all.length < 12);
        for (Class<?> c : all) {
            Check.holds(c.getSimpleName() + " is static", Modifier.isStatic(c.getModifiers()));
            Check.holds(c.getSimpleName() + " is not public", !Modifier.isPublic(c.getModifiers()) && !Modifier.isProtected(c.getModifiers()));
            fields(c);
        }
        fields(CenturyPosts.class);
    }

    private static void fields(Class<?> c) {
        int own = 0;
        for (Field f : c.getDeclaredFields()) {
            if (!Modifier.isStatic(f.getModifiers())) own++;
            else Check.holds(f.getName() + " is final", Modifier.isFinal(f.getModifiers()));
        }
        Check.holds(c.getSimpleName() + " has at most some twenty fields", own <= 20);
    }

    /** The source without its comments and signs. */
    private static String bare(String text) {
        return text.replaceAll("(?s)/\\*.*?\\*/", " ").replaceAll("//[^\n]*", " ").replaceAll("'.'", "0");
    }

    private static void source(String text) {
        String bare = bare(text);
        String[] never = {"throw", "throws", "try", "catch", "synchronized", "assert", "package", "protected", "var", "Object", "System.out"};
        for (String word : never) Check.holds("no " + word, !Pattern.compile("\\b" + Pattern.quote(word) + "\\b").matcher(bare).find());
        Check.holds("no lambda, no method reference", !bare.contains("->") && !bare.contains("::"));
        Matcher dots = Pattern.compile("\\b(System|Arrays|Integer|Long|Math)\\.(\\w+)").matcher(bare);
        Set<String> used = new TreeSet<>();
        while (dots.find()) used.add(dots.group());
        Set<String> listed = Set.of("System.arraycopy", "Arrays.fill", "Integer.bitCount", "Math.abs", "Math.max", "Long.MIN_VALUE");
        Check.holds("the library used: " + used, listed.containsAll(used));
        Check.holds("signs 1 to 127", text.chars().allMatch(c -> c > 0 && c < 128));
    }

    /** Short methods, no recursion, calls at most eight deep (the library's, too). */
    private static void methods(String bare) {
        Map<String, String> bodies = new TreeMap<>();
        Matcher heads = Pattern.compile("\\n +[\\w ]*?\\b(\\w+)\\([^()]*\\) \\{").matcher(bare);
        while (heads.find()) {
            if (Set.of("if", "for", "while", "switch").contains(heads.group(1))) continue;
            String body = bodyFrom(bare, heads.end());
            Check.holds(heads.group(1) + " stays short", body.lines().count() < 60);
            // Constructors of one name, and methods of one name in two classes, count together.
            bodies.merge(heads.group(1), body, String::concat);
        }
        Check.holds("the methods were found", bodies.size() > 80 && bodies.containsKey("help") && bodies.containsKey("lawfulOf"));
        for (String name : bodies.keySet()) {
            int deep = depth(name, bodies, 1);
            Check.holds(name + " goes at most eight deep: " + deep, deep <= MOST_DEEP);
        }
    }

    private static String bodyFrom(String bare, int start) {
        int open = 1;
        int at = start;
        for (; at < bare.length() && open > 0; at++) {
            if (bare.charAt(at) == '{') open++;
            if (bare.charAt(at) == '}') open--;
        }
        return bare.substring(start, at);
    }

    private static int depth(String name, Map<String, String> bodies, int level) {
        if (level > MOST_DEEP || !bodies.containsKey(name)) return level;
        int deepest = level;
        Matcher calls = Pattern.compile("\\b(\\w+)\\(").matcher(bodies.get(name).replaceAll("\\b(if|for|while|switch) \\(", " "));
        while (calls.find()) deepest = Math.max(deepest, depth(calls.group(1), bodies, level + 1));
        return deepest;
    }
}
