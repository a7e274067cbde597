import java.io.IOException;
import java.lang.reflect.Constructor;
import java.lang.reflect.Field;
import java.lang.reflect.Member;
import java.lang.reflect.Method;
import java.lang.reflect.Modifier;
import java.nio.file.Files;
import java.nio.file.Path;
import java.util.Set;
import java.util.TreeSet;
import java.util.regex.Matcher;
import java.util.regex.Pattern;

/** The face of the class, and those rules of LANGUAGE.md that its text can be searched for. */
public final class LanguageTest {
    private static final Path SOURCE = Path.of("src/main/java/PhraseMoves.java");
    private static final Set<String> FACE = Set.of(
            "int put(int,int)", "int clear()", "int ask(int,int,int,int)", "int forget()", "int count(int)",
            "int begin(int,int)", "int end(int,int)", "int covered(int)", "int slot(int,int)", "int unslot()",
            "int matches(int)", "long weight(int)", "int least()", "int chosen(int)", "int ties()",
            "int shortest(int)");
    private static final String[] FORBIDDEN = {
        "\\bthrow", "\\btry\\b", "\\bcatch\\b", "\\bsynchronized\\b", "\\bassert\\b", "->", "::", "\\bpackage\\b",
        "\\bstatic\\s*\\{", "Exact\\b", "\\.equals\\(", "\\bhashCode\\b", "\\btoString\\b", "\\bRandom\\b",
        "\\bThread\\b", "\\bimport (?!java\\.util\\.(Arrays|ArrayList|List);)", "\\bSystem\\.(?!arraycopy)",
        "\\bprotected\\b", "[^\\x00-\\x7f]"};
    private static int wrong = 0;

    public static void main(String[] args) throws IOException {
        checkFace();
        checkClassesInside();
        String code = withoutComments(Files.readString(SOURCE));
        checkForbidden(code);
        checkLengthOfMethods(code);
        System.out.println(wrong == 0 ? "the class keeps to its face and language" : wrong + " faults");
        if (wrong != 0) {
            System.exit(1);
        }
    }

    private static void need(boolean holds, String what) {
        if (!holds) {
            wrong++;
            System.out.println("not so: " + what);
        }
    }

    private static boolean isPrivate(Member member) {
        return Modifier.isPrivate(member.getModifiers()) || member.isSynthetic();
    }

    private static void checkFace() {
        need(Modifier.isPublic(PhraseMoves.class.getModifiers()), "PhraseMoves is public");
        need(Modifier.isFinal(PhraseMoves.class.getModifiers()), "PhraseMoves is final");
        Set<String> names = new TreeSet<>();
        Set<String> face = new TreeSet<>();
        for (Method method : PhraseMoves.class.getDeclaredMethods()) {
            if (!isPrivate(method)) {
                need(Modifier.isPublic(method.getModifiers()), method + " is public or private");
                need(!Modifier.isStatic(method.getModifiers()), method + " is not static");
                face.add(signature(method));
                names.add(method.getName());
            }
        }
        need(face.equals(new TreeSet<>(FACE)), "the public methods are those of the document: " + face);
        for (Method method : PhraseMoves.class.getDeclaredMethods()) {
            need(!isPrivate(method) || !names.contains(method.getName()), method + " has a name of its own");
        }
        Constructor<?>[] constructors = PhraseMoves.class.getDeclaredConstructors();
        need(constructors.length == 1 && constructors[0].getParameterCount() == 0
                && Modifier.isPublic(constructors[0].getModifiers()), "there is one public constructor");
        for (Field field : PhraseMoves.class.getDeclaredFields()) {
            need(isPrivate(field), field + " is private");
        }
    }

    private static boolean isOfFace(String name) {
        return FACE.stream().anyMatch(method -> method.contains(" " + name + "("));
    }

    private static String signature(Method method) {
        StringBuilder types = new StringBuilder();
        for (Class<?> type : method.getParameterTypes()) {
            types.append(types.length() == 0 ? "" : ",").append(type.getName());
        }
        return method.getReturnType().getName() + " " + method.getName() + "(" + types + ")";
    }

    private static void checkClassesInside() {
        Class<?>[] inside = PhraseMoves.class.getDeclaredClasses();
        need(inside.length < 12, "there are fewer than twelve classes");
        for (Class<?> one : inside) {
            need(Modifier.isStatic(one.getModifiers()), one + " is static");
            need(!Modifier.isPublic(one.getModifiers()), one + " is not public");
            need(one.getDeclaredFields().length <= 20, one + " has at most twenty fields");
            for (Method method : one.getDeclaredMethods()) {
                need(method.getParameterCount() <= 7, method + " has at most seven parameters");
                need(!isOfFace(method.getName()), method + " has a name of its own");
            }
            for (Field field : one.getDeclaredFields()) {
                need(!Modifier.isStatic(field.getModifiers()) || Modifier.isFinal(field.getModifiers()),
                        field + " is final if it is static");
            }
        }
    }

    private static String withoutComments(String source) {
        return source.replaceAll("(?s)/\\*.*?\\*/", "").replaceAll("//[^\n]*", "");
    }

    private static void checkForbidden(String code) {
        for (String words : FORBIDDEN) {
            Matcher found = Pattern.compile(words).matcher(code);
            if (found.find()) {
                need(false, "the class does without '" + found.group() + "'");
            }
        }
    }

    /** A method begins at a line that ends with ') {' outside all others and ends at its brace. */
    private static void checkLengthOfMethods(String code) {
        String name = null;
        String indent = "";
        int lines = 0;
        for (String line : code.split("\n")) {
            lines++;
            if (name == null && line.matches("\\s+[^=;]*\\) \\{")) {
                name = line.trim();
                indent = line.substring(0, line.indexOf(name));
                lines = 1;
            } else if (name != null && line.equals(indent + "}")) {
                need(lines <= 60, name + " has at most sixty lines");
                name = null;
            }
        }
    }
}
