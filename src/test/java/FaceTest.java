import java.lang.reflect.Constructor;
import java.lang.reflect.Field;
import java.lang.reflect.Member;
import java.lang.reflect.Method;
import java.lang.reflect.Modifier;
import java.nio.file.Files;
import java.nio.file.Path;
import java.util.ArrayList;
import java.util.Collections;
import java.util.HashSet;
import java.util.List;
import java.util.Set;
import java.util.regex.Matcher;
import java.util.regex.Pattern;

/** The face is the document's and no other, and the source keeps to what can be seen of LANGUAGE.md. */
public final class FaceTest {
    private static final String[] FACE = {
        "int back(int)", "int clear()", "int count(int)", "int day()", "int dies(int)", "int dinner(int,int)",
        "int exchange()", "int exchanges(int,int)", "int forget()", "int fromWhen(int)", "int grants(int,int,int)",
        "int holdsOut()", "int house()", "int keep(int)", "int last(int)", "int needs(int)", "int now(int)",
        "int odds(int,int,int)", "int opens(int)", "int person(int,int)", "int rate(int,int)", "int right(int,int)",
        "int room(int,int)", "int said(int)", "int seen(int,int,int)", "int type(int)", "int undo()",
        "int waits(int,int)", "int wills(int,int)", "long trace()"
    };
    private static final Set<String> CONSTANTS = Set.of("BAD", "STATE", "FULL", "NONE", "NO");
    private static final int MOST_METHOD_LINES = 60, MOST_CLASSES = 12, MOST_FIELDS = 20;

    private static int wrong = 0;

    public static void main(String[] args) throws Exception {
        face();
        classes();
        source(Files.readString(Path.of(args.length > 0 ? args[0] : ".", "src/main/java/GhostRooms.java")));
        System.out.println(wrong == 0 ? "the face and the language are as told" : wrong + " faults");
        if (wrong != 0) {
            System.exit(1);
        }
    }

    private static void check(boolean right, String told) {
        if (!right) {
            wrong++;
            System.out.println(told);
        }
    }

    private static boolean isPrivate(Member member) {
        return Modifier.isPrivate(member.getModifiers());
    }

    private static void face() {
        Class<?> type = GhostRooms.class;
        check(Modifier.isPublic(type.getModifiers()) && Modifier.isFinal(type.getModifiers()), "rule 1: public and final");
        check(type.getSuperclass() == Object.class && type.getInterfaces().length == 0, "rule 1: no class above it");
        List<String> found = new ArrayList<>();
        for (Method method : type.getDeclaredMethods()) {
            if (!isPrivate(method)) {
                found.add(signature(method));
            }
        }
        Collections.sort(found);
        check(found.equals(List.of(FACE)), "rule 1: the methods are " + found);
        for (Constructor<?> constructor : type.getDeclaredConstructors()) {
            check(Modifier.isPublic(constructor.getModifiers()) && constructor.getParameterCount() == 0,
                "rule 1: one constructor, public");
        }
        Set<String> constants = new HashSet<>();
        for (Field field : type.getDeclaredFields()) {
            if (!isPrivate(field)) {
                constants.add(field.getName());
                check(Modifier.isStatic(field.getModifiers()) && Modifier.isFinal(field.getModifiers())
                    && Modifier.isPublic(field.getModifiers()) && field.getType() == int.class, "rule 1: " + field + " is a constant");
            }
        }
        check(constants.equals(CONSTANTS), "rule 1: the constants are " + constants);
    }

    private static String signature(Method method) {
        List<String> parameters = new ArrayList<>();
        for (Class<?> parameter : method.getParameterTypes()) {
            parameters.add(parameter.getName());
        }
        String modifiers = Modifier.isStatic(method.getModifiers()) ? "static " : "";
        return modifiers + method.getReturnType() + " " + method.getName() + "(" + String.join(",", parameters) + ")";
    }

    private static void classes() {
        Class<?>[] inside = GhostRooms.class.getDeclaredClasses();
        check(inside.length + 1 <= MOST_CLASSES, "rule 11: too many classes");
        Set<String> publicNames = new HashSet<>();
        for (Method method : GhostRooms.class.getMethods()) {
            publicNames.add(method.getName());
        }
        checkMembers(GhostRooms.class, publicNames);
        for (Class<?> type : inside) {
            check(Modifier.isStatic(type.getModifiers()), "rule 1: " + type + " is static");
            check(!Modifier.isPublic(type.getModifiers()) && !Modifier.isProtected(type.getModifiers()), "rule 1: " + type + " is hidden");
            checkMembers(type, publicNames);
        }
    }

    private static void checkMembers(Class<?> type, Set<String> publicNames) {
        int fields = 0;
        for (Field field : type.getDeclaredFields()) {
            boolean isStatic = Modifier.isStatic(field.getModifiers());
            check(!isStatic || Modifier.isFinal(field.getModifiers()), "rule 5: " + field + " is final");
            fields += isStatic ? 0 : 1;
        }
        check(fields <= MOST_FIELDS, "rule 11: " + type + " has too many fields");
        for (Method method : type.getDeclaredMethods()) {
            check(!isPrivate(method) || !publicNames.contains(method.getName()), "rule 1: " + method + " bears a public name");
            check(method.getParameterCount() <= 7, "rule 11: " + method + " has too many parameters");
        }
    }

    private static void source(String source) {
        String code = source.replaceAll("(?s)/\\*.*?\\*/", " ").replaceAll("//[^\n]*", " ");
        for (String word : new String[] {"throw", "throws", "try", "catch", "synchronized", "assert", "import",
            "package", "hashCode", "toString", "equals", "native", "volatile", "transient", "var"}) {
            check(!Pattern.compile("\\b" + word + "\\b").matcher(code).find(), "rules 4, 6: the word " + word + " stands there");
        }
        check(!code.contains("->") && !code.contains("::") && !code.contains("@"), "rule 2: a lambda, a reference or a note");
        Matcher library = Pattern.compile("\\b([A-Z][A-Za-z]*)\\.([a-z][A-Za-z]*)\\(").matcher(code);
        Set<String> own = new HashSet<>();
        for (Class<?> type : GhostRooms.class.getDeclaredClasses()) {
            own.add(type.getSimpleName());
        }
        Set<String> allowed = Set.of("Integer.bitCount", "System.arraycopy");
        while (library.find()) {
            String call = library.group(1) + "." + library.group(2);
            check(own.contains(library.group(1)) || allowed.contains(call), "rule 4: the library's " + call);
        }
        check(code.chars().allMatch(letter -> letter < 128), "rule 4: a sign beyond 127");
        methodLengths(code);
    }

    private static void methodLengths(String code) {
        String[] lines = code.split("\n");
        int start = -1;
        String end = "";
        for (int i = 0; i < lines.length; i++) {
            Matcher head = Pattern.compile("^( +)[\\w\\[\\]<> ]+\\([^;]*\\) \\{$").matcher(lines[i]);
            if (start < 0 && head.find()) {
                start = i;
                end = head.group(1) + "}";
            } else if (start >= 0 && lines[i].equals(end)) {
                check(i - start + 1 <= MOST_METHOD_LINES, "rule 11: too long: " + lines[start].trim());
                start = -1;
            }
        }
    }
}
