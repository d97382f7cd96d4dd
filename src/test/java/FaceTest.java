import java.io.IOException;
import java.lang.reflect.Field;
import java.lang.reflect.Method;
import java.lang.reflect.Modifier;
import java.nio.file.Files;
import java.nio.file.Path;
import java.util.HashSet;
import java.util.List;
import java.util.Set;
import java.util.TreeSet;
import java.util.regex.Matcher;
import java.util.regex.Pattern;

/** The public face as the document writes it, and what of ../shared/LANGUAGE.md a program can look at. */
public final class FaceTest {
    private static final Path SOURCE = Path.of("src/main/java/PressureNet.java");
    private static final Path DOCUMENT = Path.of("../shared/DOC.md");

    public static void main(String[] args) throws IOException, ReflectiveOperationException {
        String source = Files.readString(SOURCE);
        face(Files.readString(DOCUMENT));
        members();
        words(source);
        library(source);
        lengths(source);
        Expect.end("FaceTest");
    }

    private static void truth(String what, boolean holds) {
        Expect.same(what, holds ? 1 : 0, 1);
    }

    private static String signature(Method method) {
        StringBuilder out = new StringBuilder(method.getReturnType().getSimpleName()).append(' ').append(method.getName());
        for (Class<?> type : method.getParameterTypes()) {
            out.append(' ').append(type.getSimpleName());
        }
        Set<String> thrown = new TreeSet<>();
        for (Class<?> type : method.getExceptionTypes()) {
            thrown.add(type.getSimpleName());
        }
        return out.append(' ').append(thrown).toString();
    }

    /** Every method line of the document's face, in the form of signature(). */
    private static void face(String document) throws ReflectiveOperationException {
        Set<String> due = new TreeSet<>();
        Matcher m = Pattern.compile("    public (\\w+) (\\w+)\\(([^)]*)\\)( throws ([\\w, ]+))?;").matcher(document);
        while (m.find()) {
            StringBuilder out = new StringBuilder(m.group(1)).append(' ').append(m.group(2));
            for (String parameter : m.group(3).split(", ")) {
                out.append(parameter.isEmpty() ? "" : " " + parameter.split(" ")[0]);
            }
            Set<String> thrown = new TreeSet<>(m.group(5) == null ? List.of() : List.of(m.group(5).split(", ")));
            due.add(out.append(' ').append(thrown).toString());
        }
        Set<String> got = new TreeSet<>();
        for (Method method : PressureNet.class.getDeclaredMethods()) {
            if (!Modifier.isPrivate(method.getModifiers())) {
                truth(method + " is public and no static one", (method.getModifiers() & ~Modifier.PUBLIC) == 0);
                got.add(signature(method));
            }
        }
        Expect.same("methods of the face", got.size(), 43);
        truth("the face is " + due + ", got " + got, got.equals(due));
        Expect.same("NONE", PressureNet.NONE, -1);
        int constant = Modifier.PUBLIC | Modifier.STATIC | Modifier.FINAL;
        Expect.same("NONE is a public constant", PressureNet.class.getDeclaredField("NONE").getModifiers(), constant);
        Expect.same("constructors", PressureNet.class.getDeclaredConstructors().length, 1);
        Expect.same("public constructors", PressureNet.class.getConstructors().length, 1);
        truth("the class is public", Modifier.isPublic(PressureNet.class.getModifiers()));
        truth("final", Modifier.isFinal(PressureNet.class.getModifiers()));
    }

    private static void members() {
        Set<String> open = new HashSet<>();
        for (Method method : PressureNet.class.getDeclaredMethods()) {
            if (Modifier.isPublic(method.getModifiers())) {
                open.add(method.getName());
            }
        }
        Class<?>[] inside = PressureNet.class.getDeclaredClasses();
        truth("some twelve classes", inside.length < 12);
        look(PressureNet.class, open, true);
        for (Class<?> one : inside) {
            truth(one + " is static", Modifier.isStatic(one.getModifiers()));
            truth(one + " is not public", !Modifier.isPublic(one.getModifiers()));
            look(one, open, false);
        }
    }

    private static void look(Class<?> one, Set<String> open, boolean outer) {
        int fields = 0;
        for (Field field : one.getDeclaredFields()) {
            boolean isStatic = Modifier.isStatic(field.getModifiers());
            truth(field + " is final if static", !isStatic || Modifier.isFinal(field.getModifiers()));
            boolean hidden = Modifier.isPrivate(field.getModifiers()) || field.getName().equals("NONE");
            truth(field + " is hidden", !outer || hidden);
            fields += isStatic ? 0 : 1;
        }
        truth(one + " has twenty fields at most", fields <= 20);
        for (Method method : one.getDeclaredMethods()) {
            truth(method + " has seven parameters at most", method.getParameterCount() <= 7);
            boolean isPublic = outer && Modifier.isPublic(method.getModifiers());
            truth(method + " has a name of its own", isPublic || !open.contains(method.getName()));
            truth(method + " is no toString", !Set.of("equals", "hashCode", "toString").contains(method.getName()));
        }
    }

    private static void words(String source) {
        for (String bad : new String[] {"->", "::", "finally", "synchronized", "assert ", "catch", "Exact(", "getMessage",
            "System.nano", "System.current", "Random", "import java.util.function", "Object[]", "while (true", "for (;;"}) {
            truth("the source has no " + bad, !source.contains(bad));
        }
        Matcher m = Pattern.compile("import ([\\w.]+);").matcher(source);
        while (m.find()) {
            truth("import " + m.group(1), Set.of("java.util.Arrays", "java.util.NoSuchElementException").contains(m.group(1)));
        }
        truth("no package line", !source.contains("\npackage ") && !source.startsWith("package "));
        for (char one : source.toCharArray()) {
            if (one > 126 || one < 32 && one != '\n') {
                truth("a plain sign, not " + (int) one, false);
            }
        }
    }

    private static void library(String source) {
        String code = source.replaceAll("(?s)/\\*.*?\\*/", "").replaceAll("//[^\n]*", "").replaceAll("\"[^\"\n]*\"", "text");
        Set<String> calls = Set.of("Arrays.fill", "Math.max", "Math.min", "System.arraycopy", "util.Arrays", "util.NoSuchElementException");
        Matcher call = Pattern.compile("\\b(Arrays|Math|System|Integer|Long|String|Character|Objects|List|util)\\.\\w+").matcher(code);
        while (call.find()) {
            truth("the library: " + call.group(), calls.contains(call.group()));
        }
        Set<String> made = new TreeSet<>(Set.of("int", "IndexOutOfBoundsException", "IllegalArgumentException",
            "IllegalStateException", "NoSuchElementException"));
        for (Class<?> inside : PressureNet.class.getDeclaredClasses()) {
            made.add(inside.getSimpleName());
        }
        Matcher object = Pattern.compile("\\bnew (\\w+)").matcher(code);
        while (object.find()) {
            truth("made: " + object.group(1), made.contains(object.group(1)));
        }
        Matcher word = Pattern.compile("\\b(try|double|float|Object|instanceof|do)\\b").matcher(code);
        truth("a word that the class does without", !word.find());
        Matcher constructor = Pattern.compile("(?s)\n( +)(?:public )?(?:PressureNet|History)\\(\\) \\{(.*?)\n\\1\\}").matcher(code);
        int constructors = 0;
        while (constructor.find()) {
            constructors++;
            truth("no throw in a constructor", !constructor.group(2).contains("throw"));
        }
        Expect.same("constructors with a body", constructors, 2);
    }

    /** A method ends at the brace that stands as far to the right as its head does. */
    private static void lengths(String source) {
        String[] lines = source.split("\n");
        int start = -1;
        String end = "";
        for (int i = 0; i < lines.length; i++) {
            Matcher head = Pattern.compile("^( {4}| {8})(?!return|else|if|for|while|switch)[a-zA-Z].*\\(.*[{,)]$").matcher(lines[i]);
            if (start < 0 && head.find() && !lines[i].contains(" class ")) {
                start = i;
                end = head.group(1) + "}";
            } else if (start >= 0 && lines[i].equals(end)) {
                truth("method at line " + (start + 1) + " is short", i - start < 60);
                start = -1;
            }
        }
        truth("every method ends", start < 0);
    }
}
