import java.io.IOException;
import java.lang.reflect.Constructor;
import java.lang.reflect.Field;
import java.lang.reflect.Member;
import java.lang.reflect.Method;
import java.lang.reflect.Modifier;
import java.nio.file.Files;
import java.nio.file.Path;
import java.util.ArrayList;
import java.util.HashSet;
import java.util.List;
import java.util.Set;
import java.util.StringJoiner;
import java.util.TreeSet;
import java.util.regex.Matcher;
import java.util.regex.Pattern;

/** The public face, and the rules of LANGUAGE.md that can be seen from outside or in the text of the program. */
final class FaceTest {
    private static final String[] FORBIDDEN = {"->", "::", "\\bfinally\\b", "\\bsynchronized\\b", "\\bassert\\b",
        "\\bgetMessage\\b", "Exact\\b", "\\bSystem\\.(?!arraycopy)", "\\bpackage\\b", "\\bvar\\b", "\\bcatch\\b",
        "\\bimport (?!java\\.util\\.NoSuchElementException;)", "\\bObject\\b", "\\bNullPointerException\\b",
        "\\bArrayIndexOutOfBoundsException\\b", "\\bClassCastException\\b", "\\bNegativeArraySizeException\\b",
        "\\bThrowable\\b", "static \\{"};

    private FaceTest() {
    }

    static String read(String path) {
        try {
            return Files.readString(Path.of(path));
        } catch (IOException e) {
            throw new AssertionError(e);
        }
    }

    private static String program() {
        return read("src/main/java/SkipArchive.java").replaceAll("(?s)/\\*.*?\\*/", "").replaceAll("//[^\n]*", "");
    }

    static void faceIsThatOfTheDocument() {
        Matcher block = Pattern.compile("(?s)```java(.*?)```").matcher(read("../shared/DOC.md"));
        Check.same(true, block.find());
        Set<String> due = new TreeSet<>();
        for (String row : block.group(1).split("\n")) {
            if (row.matches("    public [a-z]+ .*")) {
                due.add(row.trim().replaceAll("(int|char) \\w+(?=[,)])", "$1").replace(";", ""));
            }
        }
        Check.same(42, due.size());
        Set<String> given = new TreeSet<>();
        for (Method method : SkipArchive.class.getDeclaredMethods()) {
            if (!Modifier.isPrivate(method.getModifiers())) {
                given.add(signature(method));
            }
        }
        Check.same(due, given);
    }

    private static String signature(Method method) {
        StringJoiner parameters = new StringJoiner(", ", "(", ")");
        for (Class<?> type : method.getParameterTypes()) {
            parameters.add(type.getSimpleName());
        }
        StringJoiner exceptions = new StringJoiner(", ", " throws ", "");
        for (Class<?> type : method.getExceptionTypes()) {
            exceptions.add(type.getSimpleName());
        }
        exceptions.setEmptyValue("");
        return Modifier.toString(method.getModifiers()) + " " + method.getReturnType() + " " + method.getName()
                + parameters + exceptions;
    }

    static void nothingElseIsSeen() {
        Class<?> face = SkipArchive.class;
        Check.same(Modifier.PUBLIC | Modifier.FINAL, face.getModifiers());
        Check.same(1, face.getDeclaredConstructors().length);
        for (Constructor<?> constructor : face.getDeclaredConstructors()) {
            Check.same(0, constructor.getParameterCount());
            Check.same(Modifier.PUBLIC, constructor.getModifiers());
        }
        for (Field field : face.getDeclaredFields()) {
            Check.same(true, Modifier.isPrivate(field.getModifiers()));
        }
        for (Class<?> inside : face.getDeclaredClasses()) {
            Check.same(0, inside.getModifiers() & (Modifier.PUBLIC | Modifier.PROTECTED));
            Check.same(true, Modifier.isStatic(inside.getModifiers()));
        }
        Check.same(true, face.getDeclaredClasses().length < 12);
    }

    static void noPrivateMethodBearsTheNameOfAPublicOne() {
        Set<String> names = new HashSet<>();
        for (Method method : SkipArchive.class.getDeclaredMethods()) {
            if (!Modifier.isPrivate(method.getModifiers())) {
                names.add(method.getName());
            }
        }
        List<Member> others = new ArrayList<>();
        for (Class<?> inside : SkipArchive.class.getDeclaredClasses()) {
            others.addAll(List.of(inside.getDeclaredMethods()));
        }
        for (Method method : SkipArchive.class.getDeclaredMethods()) {
            if (Modifier.isPrivate(method.getModifiers())) {
                others.add(method);
            }
        }
        for (Member other : others) {
            if (names.contains(other.getName())) {
                Check.fault("a second " + other);
            }
        }
    }

    static void fieldsStayWithinTheRules() {
        List<Class<?>> all = new ArrayList<>(List.of(SkipArchive.class.getDeclaredClasses()));
        all.add(SkipArchive.class);
        for (Class<?> each : all) {
            int fields = 0;
            for (Field field : each.getDeclaredFields()) {
                if (Modifier.isStatic(field.getModifiers())) {
                    Check.same(true, Modifier.isFinal(field.getModifiers()));
                    Check.same(true, field.getType().isPrimitive());
                } else {
                    fields++;
                }
            }
            Check.same(true, fields <= 20);
        }
    }

    static void textKeepsToTheLanguage() {
        String program = program();
        for (String forbidden : FORBIDDEN) {
            if (Pattern.compile(forbidden).matcher(program).find()) {
                Check.fault("the program has " + forbidden);
            }
        }
        Check.same(true, program.chars().allMatch(character -> character > 0 && character < 128));
    }

    static void methodsStayShort() {
        int rows = 0;
        for (String row : program().split("\n")) {
            if (row.matches("    (    )?\\}")) {
                rows = 0;
            }
            rows = row.matches("    (    )?\\w.*\\{") ? 1 : rows + 1;
            Check.same(true, rows <= 60);
        }
    }
}
