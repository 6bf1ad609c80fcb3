import java.lang.reflect.Constructor;
import java.lang.reflect.Field;
import java.lang.reflect.Method;
import java.lang.reflect.Modifier;
import java.nio.charset.StandardCharsets;
import java.nio.file.Files;
import java.nio.file.Path;
import java.util.ArrayList;
import java.util.Arrays;
import java.util.HashSet;
import java.util.List;
import java.util.Map;
import java.util.Set;
import java.util.TreeMap;
import java.util.TreeSet;
import java.util.regex.Matcher;
import java.util.regex.Pattern;

/** The face of the document, and what of LANGUAGE.md can be read off the text and the class. */
public final class LanguageTest {
    private static final String[] FACE = {
        "int feed(int)", "int bequest()", "int bagOf(int,int)", "int bearerOf(int,int)", "int bag(int,int,int)",
        "int bearer(int,int,int)", "int gives(int,int)", "int friends(int,int)", "int wants(int,int)", "int put(int,int)",
        "int colonel(int)", "int hours(int)", "int back()", "int behind(int,int,int)", "int meet(int,int)",
        "int company(int,int)", "int breathless(int)", "int snaps(int,int)", "int bestBag(int,int,int)", "int hers(int)",
        "int errand(int,int)", "int defy(int,int,int)", "int given(int,int,int)", "int quiet(int,int)", "int stable(int)",
        "int whose(int,int)", "int nextTell(int,int,int)", "int arm(int,int,int)", "long sleep(int,int,int,int,int)",
        "int swap(int)", "int heir(int)", "int far(int,int)", "int tired(int)", "int visits(int,int,int)",
        "int together(int,int,int)", "int rests(int,int)", "int firstSnap()", "int busy(int,int)", "int tamed(int)",
        "int unled()", "int gathering()", "int bestHabit(int,int)", "int farthest(int,int)", "int row(int)",
        "int judge(int)", "int clear()", "int lots(int,int,int)", "int image()", "int restore()", "int count(int)"};
    private static int wrong = 0;

    private static void must(boolean so, String what) {
        if (!so) {
            wrong++;
            System.out.println(what);
        }
    }

    public static void main(String[] args) throws Exception {
        face();
        for (Class<?> inside : HandbagLady.class.getDeclaredClasses()) {
            must(Modifier.isStatic(inside.getModifiers()) && !Modifier.isPublic(inside.getModifiers())
                    && !Modifier.isProtected(inside.getModifiers()), "rule 1: " + inside);
        }
        must(HandbagLady.class.getDeclaredClasses().length <= 11, "rule 11: classes");
        String source = Files.readString(Path.of("src/main/java/HandbagLady.java"), StandardCharsets.ISO_8859_1);
        text(source);
        lengths(source);
        depths(source);
        System.out.println(wrong == 0 ? "the rules that are looked at are kept" : wrong + " rules are broken");
        if (wrong != 0) {
            System.exit(1);
        }
    }

    private static void face() {
        Set<String> open = new TreeSet<>();
        Set<String> names = new HashSet<>();
        Set<String> hidden = new HashSet<>();
        for (Method m : HandbagLady.class.getDeclaredMethods()) {
            if (Modifier.isPrivate(m.getModifiers())) {
                hidden.add(m.getName());
            } else {
                List<String> of = new ArrayList<>();
                Arrays.stream(m.getParameterTypes()).forEach(t -> of.add(t.getName()));
                open.add(m.getReturnType() + " " + m.getName() + "(" + String.join(",", of) + ")");
                names.add(m.getName());
                must(Modifier.isPublic(m.getModifiers()) && !Modifier.isStatic(m.getModifiers()), "rule 1: " + m);
            }
        }
        for (Class<?> inside : HandbagLady.class.getDeclaredClasses()) {
            for (Method m : inside.getDeclaredMethods()) {
                hidden.add(m.getName());
            }
            fields(inside);
        }
        must(open.equals(new TreeSet<>(Arrays.asList(FACE))), "the face is " + open);
        hidden.retainAll(names);
        must(hidden.isEmpty(), "rule 1: names of the face hidden again: " + hidden);
        must(Modifier.isFinal(HandbagLady.class.getModifiers()), "rule 1: final");
        Constructor<?>[] made = HandbagLady.class.getDeclaredConstructors();
        must(made.length == 1 && made[0].getParameterCount() == 0 && Modifier.isPublic(made[0].getModifiers()), "rule 1: constructor");
        fields(HandbagLady.class);
    }

    private static void fields(Class<?> of) {
        int own = 0;
        for (Field f : of.getDeclaredFields()) {
            must(Modifier.isPrivate(f.getModifiers()), "rule 1: " + f);
            if (Modifier.isStatic(f.getModifiers())) {
                must(Modifier.isFinal(f.getModifiers()) && (f.getType().isPrimitive() || f.getType() == String.class), "rule 5: " + f);
            } else {
                own++;
            }
        }
        must(own <= 20, "rule 11: fields of " + of + ": " + own);
    }

    private static void text(String source) {
        String code = source.replaceAll("(?s)/\\*.*?\\*/", " ").replaceAll("//[^\n]*", " ").replaceAll("'.'", " ");
        for (int k = 0; k < source.length(); k++) {
            must(source.charAt(k) < 128, "a sign beyond 127 at " + k);
        }
        for (String word : List.of("throw", "throws", "try", "catch", "finally", "synchronized", "assert", "import", "package",
                "interface", "var", "float", "double", "System.out", "yield", "record", "instanceof", "protected", "while")) {
            must(!Pattern.compile("\\b" + word + "\\b").matcher(code).find(), "rules 2 to 9: " + word);
        }
        for (String sign : List.of("->", "::", "Exact", "@", "\"", "hashCode", "toString", "equals")) {
            must(!code.contains(sign), "rules 2 to 6: " + sign);
        }
        Matcher library = Pattern.compile("\\b(System|Math|Integer|Long|Arrays|String|StringBuilder|List|ArrayList)\\b(\\.\\w+)?").matcher(code);
        while (library.find()) {
            must(List.of("System.arraycopy", "Math.min", "Math.max", "Math.abs", "Math.floorMod", "Math.floorDiv", "Integer.compare",
                    "Integer.bitCount").contains(library.group()), "rule 4: " + library.group());
        }
        Matcher made = Pattern.compile("\\bnew \\w+").matcher(code);
        while (made.find()) {
            int line = code.lastIndexOf('\n', made.start()) + 1;
            String whole = code.substring(line, code.indexOf('\n', line)).trim();
            must(whole.startsWith("private final ") || whole.equals("past[k] = new Street();"), "rule 12: made in a call: " + whole);
        }
    }

    /** No method calls itself, over others neither, and calls go at most eight deep. */
    private static void depths(String source) {
        Map<String, String> bodies = new TreeMap<>();
        Matcher head = Pattern.compile("(?m)^( {4}| {8})(?:public|private)[^=;\\n]*?(\\w+)\\([^)]*\\) \\{$").matcher(source);
        while (head.find()) {
            int end = source.indexOf("\n" + head.group(1) + "}\n", head.end());
            must(bodies.put(head.group(2), source.substring(head.end(), end)) == null, "two methods are named " + head.group(2));
        }
        for (String name : bodies.keySet()) {
            int deep = depth(name, bodies, 0);
            must(deep <= 8, "rule 11: calls of " + name + " go " + deep + " deep");
        }
    }

    private static int depth(String name, Map<String, String> bodies, int open) {
        if (open > 20) {
            return 20;
        }
        int most = 0;
        Matcher call = Pattern.compile("\\b(\\w+)\\(").matcher(bodies.get(name));
        while (call.find()) {
            if (bodies.containsKey(call.group(1))) {
                most = Math.max(most, depth(call.group(1), bodies, open + 1));
            }
        }
        return most + 1;
    }

    /** No method is longer than sixty lines or takes more than seven parameters. */
    private static void lengths(String source) {
        String[] lines = source.split("\n");
        int began = -1;
        String indent = "";
        for (int k = 0; k < lines.length; k++) {
            Matcher head = Pattern.compile("^( {4}| {8})(?:public|private)[^=;]*\\(([^)]*)\\) \\{$").matcher(lines[k]);
            if (head.matches()) {
                began = k;
                indent = head.group(1);
                must(head.group(2).split(",").length <= 7, "rule 11: parameters: " + lines[k].trim());
            }
            if (began >= 0 && lines[k].equals(indent + "}")) {
                must(k - began + 1 <= 60, "rule 11: " + (k - began + 1) + " lines: " + lines[began].trim());
                began = -1;
            }
        }
    }
}
