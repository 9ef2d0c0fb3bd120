import java.lang.reflect.Constructor;
import java.lang.reflect.Field;
import java.lang.reflect.Method;
import java.lang.reflect.Modifier;
import java.nio.charset.StandardCharsets;
import java.nio.file.Files;
import java.nio.file.Path;
import java.util.ArrayList;
import java.util.Arrays;
import java.util.List;
import java.util.Set;
import java.util.TreeSet;
import java.util.regex.Matcher;
import java.util.regex.Pattern;

/** The face of the document, and the rules of LANGUAGE.md that a look at the class and its file shows. */
public final class LanguageTest {
    private static final String FACE = "long allRight(int,boolean)|int agreed(int)|int again(int)|int cheated()|"
        + "int come(int)|int count(int)|int fault()|long forget(int,int,boolean)|int keep(int)|int late()|"
        + "int leave(int)|long mean(int,boolean)|int pay(int,int)|int person(int,int)|int rests(int)|int round()|"
        + "long seed(long)|int settled()|int slip(int,int)|int table()|int tenths(int,int)|int undo()|int unpay()|"
        + "int ways(int)|int wipe()|int won(int,int)|int write(int,long)|int wrong(int)|int wrote(int)";
    private static final String[] BANNED = {"throw", "throws", "try", "catch", "synchronized", "assert", "volatile",
        "native", "goto", "protected", "default ->", "Exact", "System.out", "Thread", "Random", "Object", "var "};

    public static void main(String[] args) throws Exception {
        Class<?> face = RightIfAsMany.class;
        String root = args.length > 0 ? args[0] : ".";
        Path file = Path.of(root, "src", "main", "java", "RightIfAsMany.java");
        String source = new String(Files.readAllBytes(file), StandardCharsets.ISO_8859_1);
        face(face);
        classesInside(face);
        for (Class<?> one : classes(face)) {
            fields(one);
            methods(one);
        }
        words(withoutComments(source));
        lengths(withoutComments(source));
        Check.end();
    }

    private static List<Class<?>> classes(Class<?> face) {
        List<Class<?>> all = new ArrayList<>(Arrays.asList(face.getDeclaredClasses()));
        all.add(face);
        return all;
    }

    // Rule 1
    private static void face(Class<?> face) {
        Check.holds("the class is public and final",
            Modifier.isPublic(face.getModifiers()) && Modifier.isFinal(face.getModifiers()));
        Constructor<?>[] makers = face.getDeclaredConstructors();
        Check.holds("one public constructor without parameters",
            makers.length == 1 && Modifier.isPublic(makers[0].getModifiers()) && makers[0].getParameterCount() == 0);
        Set<String> got = new TreeSet<>();
        Set<String> names = new TreeSet<>();
        for (Method method : face.getDeclaredMethods()) {
            if (!Modifier.isPrivate(method.getModifiers())) {
                got.add(told(method));
                names.add(method.getName());
                Check.holds(told(method) + " is public and of the object", method.getModifiers() == Modifier.PUBLIC);
            }
        }
        Set<String> want = new TreeSet<>(Arrays.asList(FACE.split("\\|")));
        Check.holds("the face is " + got, got.equals(want));
        for (Class<?> one : classes(face)) {
            for (Method method : one.getDeclaredMethods()) {
                boolean inFace = one == face && Modifier.isPublic(method.getModifiers());
                Check.holds(method + " bears a name of the face", inFace || !names.contains(method.getName()));
            }
        }
        Set<String> constants = new TreeSet<>();
        for (Field field : face.getDeclaredFields()) {
            if (!Modifier.isPrivate(field.getModifiers())) {
                constants.add(field.getName() + Modifier.toString(field.getModifiers()) + field.getType());
            }
        }
        String kind = "public static finalint";
        Check.holds("the constants are " + constants, constants.equals(new TreeSet<>(Arrays.asList("UNKNOWN" + kind,
            "OUTSIDE" + kind, "STATE" + kind, "FULL" + kind, "NONE" + kind))));
    }

    private static String told(Method method) {
        StringBuilder all = new StringBuilder(method.getReturnType().getName()).append(' ').append(method.getName());
        List<String> kinds = new ArrayList<>();
        for (Class<?> kind : method.getParameterTypes()) {
            kinds.add(kind.getName());
        }
        return all.append('(').append(String.join(",", kinds)).append(')').toString();
    }

    // Rules 1, 2 and 11
    private static void classesInside(Class<?> face) {
        Check.holds("some twelve classes", classes(face).size() <= 12);
        for (Class<?> one : face.getDeclaredClasses()) {
            Check.holds(one + " is static", Modifier.isStatic(one.getModifiers()));
            Check.holds(one + " is no part of the face", !Modifier.isPublic(one.getModifiers()));
            Check.holds(one + " has no class inside", one.getDeclaredClasses().length == 0);
        }
    }

    // Rules 5 and 11
    private static void fields(Class<?> one) {
        int many = 0;
        for (Field field : one.getDeclaredFields()) {
            if (Modifier.isStatic(field.getModifiers())) {
                Check.holds(field + " is final", Modifier.isFinal(field.getModifiers()));
                Check.holds(field + " is a number", field.getType() == int.class || field.getType() == long.class);
            } else {
                many++;
                Check.holds(field + " is private", Modifier.isPrivate(field.getModifiers()));
            }
        }
        Check.holds(one + " has " + many + " fields", many <= 20);
    }

    // Rules 2 and 11
    private static void methods(Class<?> one) {
        for (Method method : one.getDeclaredMethods()) {
            Check.holds(method + " takes seven at most", method.getParameterCount() <= 7);
            Check.holds(method + " was written", !method.isSynthetic());
        }
    }

    private static String withoutComments(String source) {
        return source.replaceAll("(?s)/\\*.*?\\*/", "").replaceAll("//[^\n]*", "");
    }

    // Rules 2, 4, 6, 10 and 13
    private static void words(String code) {
        for (String word : BANNED) {
            Matcher found = Pattern.compile("(?<![A-Za-z])" + Pattern.quote(word) + "(?![a-z])").matcher(code);
            Check.holds("'" + word + "' stands in the file", !found.find());
        }
        Check.holds("a lambda or a method reference", !code.contains("->") && !code.contains("::"));
        Check.holds("a package line", !code.contains("package "));
        Check.holds("a static block", !Pattern.compile("static\\s*\\{").matcher(code).find());
        Check.holds("signs 1 to 127", code.chars().allMatch(sign -> sign > 0 && sign < 128));
        Matcher imports = Pattern.compile("import ([^;]*);").matcher(code);
        while (imports.find()) {
            Check.holds("import of " + imports.group(1), imports.group(1).equals("java.util.Arrays"));
        }
        Set<String> library = new TreeSet<>();
        Matcher calls = Pattern.compile("\\b(Arrays|System|Math|Integer|Long|String)\\.(\\w+)").matcher(code);
        while (calls.find()) {
            library.add(calls.group(1) + "." + calls.group(2));
        }
        library.removeAll(Arrays.asList("Arrays.fill", "System.arraycopy", "Math.min", "Math.max", "Integer.bitCount"));
        Check.holds("calls of the library " + library, library.isEmpty());
        Check.holds("an object is made in a method", made(code).equals(new TreeSet<>(Arrays.asList("Text", "Reader",
            "Rules", "People", "Memory", "Rows", "Chances", "Moves", "Payments", "Evenings", "int[", "long["))));
    }

    private static Set<String> made(String code) {
        Set<String> all = new TreeSet<>();
        Matcher news = Pattern.compile("\\bnew (\\w+\\[?)").matcher(code);
        while (news.find()) {
            all.add(news.group(1));
        }
        return all;
    }

    // Rules 9 and 11
    private static void lengths(String code) {
        Check.holds("loops have counters", !Pattern.compile("\\b(while|do)\\b").matcher(code).find());
        String[] lines = code.split("\n", -1);
        int start = -1;
        for (int i = 0; i < lines.length; i++) {
            if (lines[i].matches("( {4}| {8})[a-z][^=;]*\\) \\{")) {
                start = i;
            }
            if (start >= 0 && lines[i].matches("( {4}| {8})\\}") && lines[i].indexOf('}') <= indent(lines[start])) {
                Check.holds("the method at line " + (start + 1) + " is short", i - start < 60);
                start = -1;
            }
            Check.holds("line " + (i + 1) + " is not too long", lines[i].length() <= 120);
        }
    }

    private static int indent(String line) {
        return line.length() - line.stripLeading().length();
    }
}
