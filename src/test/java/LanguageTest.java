import java.io.IOException;
import java.lang.reflect.Constructor;
import java.lang.reflect.Field;
import java.lang.reflect.Method;
import java.lang.reflect.Modifier;
import java.nio.file.Files;
import java.nio.file.Path;
import java.util.Arrays;
import java.util.Set;
import java.util.TreeSet;
import java.util.regex.Matcher;
import java.util.regex.Pattern;

/** The face of the document, and the rules of LANGUAGE.md that can be read off the class or its text. */
public final class LanguageTest {
    private static final String FACE = """
        int sheet(int, int, int)
        long set(int, int, long)
        int copy(int, int, int, int, int)
        int drop(int)
        int part(int, int, int, int, int)
        int layers(int, int, int, int, int)
        int clear(int)
        int kind(int)
        int is(int, int)
        int ask(int, int)
        int trace(int)
        int gate(int, int)
        int vent(int, int)
        int cell(int, int, int)
        int meeting(int, int, int)
        int trap(int, int)
        long force(int, int)
        int best(int)
        int branch(int, int, int)
        int hang(int, int)
        int strip()
        int end(int)
        int runners(int)
        int balance(int)
        int size(int)
        int beat(int, int, int, int)
        int warmth(int, int)
        int press(int)
        int job(int, int, int)
        int plan()
        int planned(int, int)
        int load(int, int)
        int count(int)
        int status()
        """;

    private static final String[] FORBIDDEN = {"\\bthrow\\b", "\\btry\\b", "\\bcatch\\b", "\\bsynchronized\\b",
        "\\bassert\\b", "->", "::", "\\bimport\\b", "\\bpackage\\b", "\\w+Exact\\b", "\\bNaN\\b", "@\\w+",
        "\\btoString\\b", "\\bhashCode\\b", "\\bequals\\b", "\\bstatic \\{", "\\bprotected\\b", "\\bObject\\b"};

    private static int wrong = 0;

    public static void main(String[] args) throws IOException {
        face();
        faceOfDocument(Files.readString(Path.of("../shared/DOC.md")));
        nestedClasses();
        String whole = Files.readString(Path.of("src/main/java/HollowPress.java"));
        text(whole);
        library(withoutComments(whole));
        methodsAreShort(whole);
        System.out.println(wrong == 0 ? "the class keeps to the rules" : wrong + " rules are broken");
        if (wrong != 0) System.exit(1);
    }

    private static void check(boolean kept, String rule) {
        if (kept) return;
        wrong++;
        System.out.println("broken: " + rule);
    }

    private static void face() {
        Class<?> c = HollowPress.class;
        check(Modifier.isPublic(c.getModifiers()) && Modifier.isFinal(c.getModifiers()), "public final class");
        Set<String> due = new TreeSet<>(Arrays.asList(FACE.strip().split("\n")));
        Set<String> there = new TreeSet<>();
        Set<String> names = new TreeSet<>();
        for (String line : due) names.add(line.replaceAll("^\\w+ (\\w+)\\(.*", "$1"));
        for (Method m : c.getDeclaredMethods()) {
            if (Modifier.isPrivate(m.getModifiers())) {
                check(!names.contains(m.getName()), "private method with a public name: " + m.getName());
                continue;
            }
            String types = Arrays.toString(m.getParameterTypes()).replaceAll("[\\[\\]]", "");
            there.add(m.getReturnType() + " " + m.getName() + "(" + types + ")");
            check(Modifier.isPublic(m.getModifiers()) && !Modifier.isStatic(m.getModifiers()), "public: " + m);
        }
        check(there.equals(due), "the methods of the face: " + there);
        Constructor<?>[] made = c.getDeclaredConstructors();
        check(made.length == 1 && made[0].getParameterCount() == 0 && Modifier.isPublic(made[0].getModifiers()), "constructor");
        Set<String> constants = new TreeSet<>();
        for (Field f : c.getDeclaredFields()) {
            if (!Modifier.isPrivate(f.getModifiers())) constants.add(f.getName());
            if (Modifier.isStatic(f.getModifiers())) check(Modifier.isFinal(f.getModifiers()), "static and not final: " + f);
        }
        check(constants.equals(Set.of("NONE", "BAD", "STATE", "FULL")), "constants of the face: " + constants);
        check(HollowPress.NONE == -1000000 && HollowPress.BAD == -1000001, "NONE, BAD");
        check(HollowPress.STATE == -1000002 && HollowPress.FULL == -1000003, "STATE, FULL");
    }

    /** So that FACE can't drift away from the document. */
    private static void faceOfDocument(String document) {
        Set<String> told = new TreeSet<>();
        Matcher call = Pattern.compile("(?m)^    public ((?:int|long) \\w+)\\((.*)\\);$").matcher(document);
        while (call.find()) told.add(call.group(1) + "(" + call.group(2).replaceAll("\\b(int|long) \\w+", "$1") + ")");
        check(told.equals(new TreeSet<>(Arrays.asList(FACE.strip().split("\n")))), "the face that the document tells: " + told);
        String constants = "int NONE = -1000000, BAD = -1000001, STATE = -1000002, FULL = -1000003;";
        check(document.contains(constants), "the constants that the document tells");
    }

    private static void nestedClasses() {
        Class<?>[] inside = HollowPress.class.getDeclaredClasses();
        check(inside.length < 12, "at most some twelve classes");
        for (Class<?> c : inside) {
            check(Modifier.isStatic(c.getModifiers()), "static: " + c);
            check(!Modifier.isPublic(c.getModifiers()) && !Modifier.isProtected(c.getModifiers()), "not public: " + c);
            int fields = 0;
            for (Field f : c.getDeclaredFields()) {
                if (!Modifier.isStatic(f.getModifiers())) fields++;
                else check(Modifier.isFinal(f.getModifiers()), "static and not final: " + f);
            }
            check(fields <= 20, "at most some twenty fields: " + c);
            for (Method m : c.getDeclaredMethods()) check(m.getParameterCount() <= 7, "at most seven parameters: " + m);
        }
    }

    private static void text(String whole) {
        String code = withoutComments(whole);
        for (String word : FORBIDDEN) {
            Matcher m = Pattern.compile(word).matcher(code);
            check(!m.find(), "the code has none of " + word);
        }
        check(whole.chars().allMatch(ch -> ch < 128), "plain characters");
        for (String line : whole.split("\n")) check(line.length() <= 110, "short lines: " + line);
    }

    private static String withoutComments(String whole) {
        return whole.replaceAll("(?s)/\\*.*?\\*/", "").replaceAll("//[^\n]*", "");
    }

    /** Every type is a number's or one of the file's own, and of the library only these functions are called. */
    private static void library(String code) {
        Set<String> known = new TreeSet<>(Set.of("HollowPress", "Math", "Integer", "System"));
        Matcher own = Pattern.compile("\\bclass (\\w+)").matcher(code);
        while (own.find()) known.add(own.group(1));
        Matcher type = Pattern.compile("\\b[A-Z]\\w*[a-z]\\w*").matcher(code);
        while (type.find()) check(known.contains(type.group()), "no such type: " + type.group());
        Set<String> called = new TreeSet<>();
        Matcher function = Pattern.compile("\\b(?:Math|Integer|System)\\.\\w+").matcher(code);
        while (function.find()) called.add(function.group());
        called.removeAll(Set.of("Math.max", "Math.min", "Integer.bitCount", "System.arraycopy"));
        check(called.isEmpty(), "only what LANGUAGE.md lists: " + called);
    }

    /** A method begins at a line that ends in ") {" one or two levels in, and ends at the brace of its level. */
    private static void methodsAreShort(String whole) {
        String[] lines = whole.split("\n");
        int methods = 0;
        for (int from = 0; from < lines.length; from++) {
            Matcher head = Pattern.compile("(    (?:    )?)\\w.*\\) \\{").matcher(lines[from]);
            if (!head.matches() || lines[from].matches(" +(if|for|while) .*")) continue;
            int to = from;
            while (to < lines.length && !lines[to].equals(head.group(1) + "}")) to++;
            methods++;
            check(to - from <= 60, "methods stay short: " + lines[from].strip());
        }
        check(methods > 100, "the methods were found: " + methods);
    }
}
