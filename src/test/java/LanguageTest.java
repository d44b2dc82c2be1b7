import java.lang.reflect.Constructor;
import java.lang.reflect.Field;
import java.lang.reflect.Method;
import java.lang.reflect.Modifier;
import java.nio.file.Files;
import java.nio.file.Path;
import java.util.Arrays;
import java.util.List;
import java.util.Map;
import java.util.Set;
import java.util.TreeMap;
import java.util.TreeSet;
import java.util.regex.Matcher;
import java.util.regex.Pattern;

/** The document's face, to the letter, and those rules of LANGUAGE.md that can be looked up. */
public final class LanguageTest {
    private static final String SOURCE = "src/main/java/MoonRights.java";
    private static final List<String> FACE = List.of(
        "long trace()", "int type(int)", "int clear()", "int parish()", "int farmer(int,int)", "int strip(int,int)",
        "int night(int,int)", "int now(int)", "int ploughs(int,int)", "int passes()", "int lends(int,int,int)",
        "int marries(int,int)", "int dies(int)", "int undo()", "int least(int,int,int)", "int soonest(int,int,int)",
        "int need(int)", "int lacks(int)", "int match(int)", "int cuts(int,int,int)", "int forget()", "int lit()",
        "int mean(int,int,int)", "int rate(int,int)", "int keep(int)", "int back(int)", "int count(int)");
    private static final List<String> FORBIDDEN = List.of(
        "\\b(throw|throws|try|catch|finally|synchronized|assert|import|package|native|volatile|transient)\\b",
        "->", "::", "\\bvar\\b", "\\.equals\\b", "\\bhashCode\\b", "\\btoString\\b", "\\bSystem\\.(?!arraycopy)",
        "\\bThread\\b", "Exact\\b", "\\bstatic\\s*\\{", "\\bObject\\b", "\\[\\]\\s*\\[\\]\\s*\\[\\]");
    private static int wrong;

    private static void hold(boolean holds, String what) {
        if (!holds) {
            wrong++;
            System.out.println("not so: " + what);
        }
    }

    private static String told(Method m) {
        StringBuilder text = new StringBuilder(m.getReturnType() + " " + m.getName() + "(");
        for (int i = 0; i < m.getParameterCount(); i++) {
            text.append(i == 0 ? "" : ",").append(m.getParameterTypes()[i]);
        }
        return text.append(")").toString();
    }

    private static void face() throws Exception {
        Class<?> c = MoonRights.class;
        hold(Modifier.isPublic(c.getModifiers()) && Modifier.isFinal(c.getModifiers()), "the class is public and final");
        Set<String> open = new TreeSet<>();
        Set<String> openNames = new TreeSet<>();
        for (Method m : c.getDeclaredMethods()) {
            if (!Modifier.isPrivate(m.getModifiers())) {
                hold(Modifier.isPublic(m.getModifiers()) && !Modifier.isStatic(m.getModifiers()), m + " is public");
                open.add(told(m));
                openNames.add(m.getName());
            }
        }
        hold(open.equals(new TreeSet<>(FACE)), "the methods are the document's: " + open);
        for (Constructor<?> k : c.getDeclaredConstructors()) {
            hold(Modifier.isPublic(k.getModifiers()) && k.getParameterCount() == 0, k + " is the document's");
        }
        Set<String> constants = new TreeSet<>();
        for (Field f : c.getDeclaredFields()) {
            if (!Modifier.isPrivate(f.getModifiers())) {
                constants.add(f.getName() + "=" + f.get(null));
            }
        }
        hold(constants.equals(new TreeSet<>(List.of("BAD=-1", "STATE=-2", "FULL=-3", "NONE=-9", "NO=-1000000"))),
            "the constants are the document's: " + constants);
        inside(c, openNames);
        for (Class<?> inner : c.getDeclaredClasses()) {
            hold(Modifier.isStatic(inner.getModifiers()) && !Modifier.isPublic(inner.getModifiers()), inner + " is static, not public");
            inside(inner, openNames);
        }
        hold(c.getDeclaredClasses().length < 12, "there are at most twelve classes");
    }

    private static void inside(Class<?> c, Set<String> openNames) {
        int fields = 0;
        for (Field f : c.getDeclaredFields()) {
            boolean fixed = Modifier.isStatic(f.getModifiers());
            hold(!fixed || Modifier.isFinal(f.getModifiers()), f + " is final");
            fields += fixed ? 0 : 1;
        }
        hold(fields <= 20, c + " has at most twenty fields");
        for (Method m : c.getDeclaredMethods()) {
            hold(m.getParameterCount() <= 7, m + " takes at most seven parameters");
            hold(Modifier.isPublic(m.getModifiers()) || !openNames.contains(m.getName()), m + " bears no public name");
        }
    }

    private static void words() throws Exception {
        String source = Files.readString(Path.of(SOURCE));
        hold(source.chars().allMatch(sign -> sign < 128), "the source is plain ASCII");
        String code = source.replaceAll("(?s)/\\*.*?\\*/", " ").replaceAll("//[^\n]*", " ").replaceAll("'.'", "0");
        for (String word : FORBIDDEN) {
            Matcher found = Pattern.compile(word).matcher(code);
            hold(!found.find(), "the source is without " + word);
        }
        // What a constructor is not given, it can't keep: no object hands out parts while it is made.
        hold(!Pattern.compile("\\bnew\\s+[A-Z]\\w*\\(\\s*[^)\\s]").matcher(code).find(), "constructors are given nothing");
        hold(!Pattern.compile("[(,=]\\s*this\\s*[,);]").matcher(code).find(), "no object hands out itself");
        depths(code);
    }

    /** Calls by name alone: two methods of one name count as one, so a depth is never told too small. */
    private static void depths(String code) {
        Map<String, Set<String>> called = new TreeMap<>();
        Matcher head = Pattern.compile("(?m)^( +)(?!return|else)(?:[\\w\\[\\]]+ )+(\\w+)\\([^()]*\\) \\{$").matcher(code);
        while (head.find()) {
            int close = code.indexOf("\n" + head.group(1) + "}", head.end());
            Matcher call = Pattern.compile("\\b(\\w+)\\(").matcher(code.substring(head.end(), close));
            Set<String> names = called.computeIfAbsent(head.group(2), name -> new TreeSet<>());
            while (call.find()) {
                names.add(call.group(1));
            }
        }
        hold(called.keySet().containsAll(List.of("match", "parish", "draw", "scanNumber")), "methods are found: " + called.keySet());
        for (String name : called.keySet()) {
            int depth = depth(called, name, 1);
            hold(depth <= 8, name + " goes at most eight calls deep, not " + depth);
        }
    }

    private static int depth(Map<String, Set<String>> called, String name, int level) {
        int deepest = level;
        if (level <= 20) {
            for (String next : called.getOrDefault(name, Set.of())) {
                deepest = Math.max(deepest, depth(called, next, level + 1));
            }
        }
        return deepest;
    }

    /** Methods are indented by four or eight, and end by a brace in the same column. */
    private static void lengths() throws Exception {
        String[] lines = Files.readString(Path.of(SOURCE)).split("\n");
        for (int i = 0; i < lines.length; i++) {
            Matcher head = Pattern.compile("^( {4}| {8})(?!class|.*\\bclass\\b)\\S.*\\) \\{$").matcher(lines[i]);
            if (head.find() && !lines[i].trim().matches("(if|for|while|switch|else|\\}).*")) {
                String end = head.group(1) + "}";
                int close = i + Arrays.asList(lines).subList(i, lines.length).indexOf(end);
                hold(close > i && close - i <= 60, lines[i].trim() + " has at most sixty lines");
            }
        }
    }

    public static void main(String[] args) throws Exception {
        face();
        words();
        lengths();
        System.out.println(wrong == 0 ? "the face and the language are as told" : wrong + " things are not as told");
        System.exit(wrong == 0 ? 0 : 1);
    }
}
