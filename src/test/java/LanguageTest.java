import java.io.IOException;
import java.lang.management.ManagementFactory;
import java.lang.reflect.Constructor;
import java.lang.reflect.Field;
import java.lang.reflect.Method;
import java.lang.reflect.Modifier;
import java.nio.file.Files;
import java.nio.file.Path;
import java.util.Arrays;
import java.util.Set;
import java.util.TreeSet;
import java.util.regex.Matcher;
import java.util.regex.Pattern;

/** The rules of ../shared/LANGUAGE.md that can be looked at from outside, the public face, and the room a run takes. */
public final class LanguageTest {
    private static final String[] FACE = {
        "event(int,int,int,int,int,int)", "undo()", "clear()", "told(int,int)", "loose(int,boolean)", "swap(int)", "count(int)",
        "feed(int,long)", "read()", "fault()", "at(int,int,int)", "skin(int,int,int)", "top(int,int,int,int)", "was(int,int,int,int)",
        "amount(int,int)", "youth(int)", "keep(int)", "back(int)", "differ(int,int)", "sight(int,int,int,int,int,int)", "met(int)",
        "unmet(int,int)", "forget()", "claim(int,int,int)", "row(int,int)", "sure(int,int,int)", "broken()", "draw(int,int,int,int,int)",
        "maybe(int,int,int,int,int,int)", "never()", "stories(int)", "story(int,int,int)", "next(int,int)", "take(int,int)"};
    private static final Set<String> NAMES = new TreeSet<>();

    public static void main(String[] args) throws IOException {
        for (String call : FACE) NAMES.add(call.substring(0, call.indexOf('(')));
        face();
        for (Class<?> inside : HillLand.class.getDeclaredClasses()) inside(inside);
        Due.is("classes are twelve at most", Math.max(12, 1 + HillLand.class.getDeclaredClasses().length), 12);
        source(Files.readString(Path.of("src/main/java/HillLand.java")));
        room();
        Due.end();
    }

    private static void holds(String what, boolean is) {
        Due.is(what, is ? 1 : 0, 1);
    }

    private static String shown(Method method) {
        String types = Arrays.toString(method.getParameterTypes()).replace(" ", "");
        return method.getName() + "(" + types.substring(1, types.length() - 1) + ")";
    }

    private static void face() {
        Set<String> calls = new TreeSet<>();
        for (Method method : HillLand.class.getDeclaredMethods()) {
            if (Modifier.isPrivate(method.getModifiers())) {
                holds("private " + method.getName() + " bears no public name", !NAMES.contains(method.getName()));
                continue;
            }
            calls.add(shown(method));
            holds(method + " is public", Modifier.isPublic(method.getModifiers()) && !Modifier.isStatic(method.getModifiers()));
            holds(method + " answers an int", method.getReturnType() == int.class);
        }
        holds("the face is " + calls, calls.equals(new TreeSet<>(Arrays.asList(FACE))));
        Set<String> constants = new TreeSet<>();
        for (Field field : HillLand.class.getDeclaredFields()) {
            if (Modifier.isPrivate(field.getModifiers())) continue;
            constants.add(Modifier.toString(field.getModifiers()) + " " + field.getType() + " " + field.getName());
        }
        Set<String> due = new TreeSet<>();
        for (String name : "NONE UNKNOWN OUTSIDE NOT FULL LARGE".split(" ")) due.add("public static final int " + name);
        holds("the constants are " + constants, constants.equals(due));
        Constructor<?>[] constructors = HillLand.class.getDeclaredConstructors();
        holds("one constructor", constructors.length == 1 && constructors[0].getParameterCount() == 0 && Modifier.isPublic(constructors[0].getModifiers()));
        holds("the class is public and final", Modifier.isPublic(HillLand.class.getModifiers()) && Modifier.isFinal(HillLand.class.getModifiers()));
        fields(HillLand.class);
    }

    private static void inside(Class<?> inside) {
        holds(inside + " is static", Modifier.isStatic(inside.getModifiers()));
        holds(inside + " is not public", !Modifier.isPublic(inside.getModifiers()) && !Modifier.isProtected(inside.getModifiers()));
        for (Method method : inside.getDeclaredMethods()) {
            holds(method + " bears no public name", !NAMES.contains(method.getName()));
            holds(method + " takes seven at most", method.getParameterCount() <= 7);
        }
        fields(inside);
    }

    private static void fields(Class<?> of) {
        int own = 0;
        for (Field field : of.getDeclaredFields()) {
            if (Modifier.isStatic(field.getModifiers())) holds(field + " is final", Modifier.isFinal(field.getModifiers()));
            else own++;
        }
        holds(of + " has some twenty fields at most", own <= 20);
    }

    private static void source(String text) {
        String code = text.replaceAll("(?s)/\\*.*?\\*/", "").replaceAll("//[^\n]*", "").replaceAll("\"[^\"\n]*\"", "\"\"");
        String[] never = {"throw", "throws", "try", "catch", "synchronized", "assert", "import", "package", "hashCode", "toString", "equals",
            "static\\s*\\{", "->", "::", "\\w+Exact\\s*\\(", "protected", "volatile", "transient", "native", "double", "float", "var", "yield"};
        for (String word : never) {
            String whole = Character.isLetter(word.charAt(0)) ? "\\b" + word + (word.endsWith("{") || word.endsWith("(") ? "" : "\\b") : word;
            holds("the source has no " + word, !Pattern.compile(whole).matcher(code).find());
        }
        Matcher arrays = Pattern.compile("(?:\\]|\\w)\\s*=\\s*new (int|boolean)\\[").matcher(code);
        int many = 0;
        while (arrays.find()) many++;
        Due.is("arrays are made in fields alone", many, Pattern.compile("private final (int|boolean)\\[\\] \\w+ = new").matcher(code).results().count());
        lengths(code);
    }

    private static void lengths(String code) {
        String[] lines = code.split("\n");
        int start = -1;
        for (int i = 0; i < lines.length; i++) {
            boolean isMethod = lines[i].matches("\\s+.*\\)\\s*\\{") && lines[i].matches("( {4}| {8})\\S.*") && !lines[i].matches("\\s+(if|for|while|switch|return|else).*");
            if (isMethod) start = i;
            if (start >= 0 && lines[i].matches("( {4}| {8})\\}") && lines[i].indexOf('}') == lines[start].length() - lines[start].stripLeading().length()) {
                holds("at most sixty lines: " + lines[start].strip(), i - start < 60);
                start = -1;
            }
        }
    }

    /** A whole run of the dearest calls makes nothing once the object is made. */
    private static void room() {
        if (!(ManagementFactory.getThreadMXBean() instanceof com.sun.management.ThreadMXBean threads)) return;
        dearRun(new HillLand());
        long before = threads.getCurrentThreadAllocatedBytes();
        HillLand x = new HillLand();
        long made = threads.getCurrentThreadAllocatedBytes();
        dearRun(x);
        long run = threads.getCurrentThreadAllocatedBytes();
        holds("an object is small: " + (made - before), made - before < 1000000);
        holds("a run makes nothing: " + (run - made), run - made < 100000);
    }

    private static void dearRun(HillLand x) {
        for (int i = 0; i < 12; i++) x.event(i % 6, i % 6 == 2 ? 1 : 2, 1, i % 6 == 2 ? 4 : 1, 2, 3);
        for (int i = 0; i < 4; i++) x.maybe(i + 1, i == 1 ? 1 : 2, 1, i == 1 ? 4 : 1, 2, 3);
        for (int i = 0; i < 30; i++) x.sight(2, i % 8, 3, 4, -40 + i, 39);
        for (int i = 0; i < 24; i++) x.claim(i % 8, (i + 3) % 8, 1 + i);
        for (int i = 0; i < 60; i++) {
            x.loose(i % 4, i % 7 > 0);
            x.amount(2, 1);
            x.swap(i % 11);
            x.next(0, i % 3);
            x.draw(4, 0, 3, i % 30, 4);
            x.row(8, i % 8);
        }
    }
}
