import java.io.IOException;
import java.lang.reflect.Constructor;
import java.lang.reflect.Field;
import java.lang.reflect.Method;
import java.lang.reflect.Modifier;
import java.nio.file.Files;
import java.nio.file.Path;
import java.util.Arrays;
import java.util.List;
import java.util.Set;
import java.util.TreeSet;
import java.util.regex.Matcher;
import java.util.regex.Pattern;
import java.util.stream.Collectors;

/** The face of the class, and those rules of LANGUAGE.md that can be seen in the text. */
public final class LanguageTest {
    private static final List<String> FACE = List.of("int feed(int,int,int,int,int)", "int trim(int)", "int teach()",
            "int errorAt()", "int count(int)", "int tavern(int,int)", "int road(int,int)", "int rumour(int,int)",
            "int since(int,int)", "int far(int,int)", "int step(int,int)", "int detour(int)", "int replace(int)",
            "int hurt(int,int)", "int mend(int)", "int tell(int,int)", "int setMiles(int,int)", "int pass(int)",
            "int until(int)", "int foresee(int,int)", "int advise(int,int)", "int best()", "double mean()",
            "long digest()");
    private static final List<String> FORBIDDEN = List.of("->", "::", "\\bcatch\\b", "\\btry\\b", "\\bfinally\\b",
            "\\bassert\\b", "\\bsynchronized\\b", "\\bObject\\b", "\\bfloat\\b", "\\binstanceof\\b", "\\bordinal\\b",
            "\\bname\\(\\)", "Exact\\(", "\\bvar\\b", "\\bMap\\b", "\\bSet\\b", "\\bSystem\\.(?!arraycopy)",
            "\\bArrays\\.(?!fill|copyOf)", "\\bMath\\.(?!min|max|abs)", "(?m)^package");

    private static final Due DUE = new Due();

    private LanguageTest() {
    }

    public static void main(String[] args) throws IOException {
        face();
        nested();
        text();
        DUE.end("LanguageTest");
    }

    private static void face() {
        Class<?> type = TavernRumours.class;
        DUE.is("public and final", type::getModifiers, Modifier.PUBLIC | Modifier.FINAL);
        Set<String> methods = new TreeSet<>();
        for (Method method : type.getDeclaredMethods()) {
            String name = method.getReturnType() + " " + method.getName() + "("
                    + Arrays.stream(method.getParameterTypes()).map(Class::getName).collect(Collectors.joining(","))
                    + ")";
            if (Modifier.isPublic(method.getModifiers())) {
                methods.add(name);
            } else if (!Modifier.isPrivate(method.getModifiers())) {
                DUE.tell("neither public nor private: " + name);
            }
        }
        if (!methods.equals(new TreeSet<>(FACE))) {
            DUE.tell("the face is " + methods);
        }
        for (Constructor<?> constructor : type.getDeclaredConstructors()) {
            DUE.is("constructor", constructor::getModifiers, Modifier.PUBLIC);
            DUE.is("its parameters", constructor::getParameterCount, 0);
        }
        for (Field field : type.getDeclaredFields()) {
            if (!Modifier.isPrivate(field.getModifiers())) {
                DUE.tell("not private: " + field);
            }
        }
    }

    private static void nested() {
        Class<?>[] types = TavernRumours.class.getDeclaredClasses();
        DUE.is("some twelve classes", () -> types.length <= 11 ? 1 : 0, 1);
        for (Class<?> type : types) {
            int modifiers = type.getModifiers();
            if (!Modifier.isStatic(modifiers) || Modifier.isPublic(modifiers) || Modifier.isProtected(modifiers)) {
                DUE.tell("not static, or seen from outside: " + type);
            }
            int fields = 0;
            for (Field field : type.getDeclaredFields()) {
                boolean isStatic = Modifier.isStatic(field.getModifiers());
                fields += isStatic ? 0 : 1;
                if (isStatic && !Modifier.isFinal(field.getModifiers())) {
                    DUE.tell("static and not final: " + field);
                }
            }
            if (fields > 20) {
                DUE.tell(fields + " fields: " + type);
            }
            for (Method method : type.getDeclaredMethods()) {
                String start = " " + method.getName() + "(";
                if (FACE.stream().anyMatch(one -> one.contains(start))) {
                    DUE.tell("the name of a public method: " + method);
                }
                if (method.getParameterCount() > 7) {
                    DUE.tell("more than seven parameters: " + method);
                }
            }
        }
    }

    private static void text() throws IOException {
        String source = Files.readString(Path.of("src/main/java/TavernRumours.java"));
        String code = source.replaceAll("(?s)/\\*.*?\\*/", "").replaceAll("//[^\n]*", "");
        for (String forbidden : FORBIDDEN) {
            Matcher matcher = Pattern.compile(forbidden).matcher(code);
            if (matcher.find()) {
                DUE.tell("not in the language: " + matcher.group());
            }
        }
        Matcher imports = Pattern.compile("(?m)^import (.*);").matcher(code);
        while (imports.find()) {
            if (!imports.group(1).equals("java.util.Arrays")) {
                DUE.tell("import " + imports.group(1));
            }
        }
        lengths(source);
    }

    private static void lengths(String source) {
        String[] lines = source.split("\n");
        int start = 0;
        for (int i = 0; i < lines.length; i++) {
            if (lines[i].length() > 120) {
                DUE.tell("line " + (i + 1) + " is long");
            }
            if (lines[i].matches("( {4}){1,2}[a-z].*\\) ?.*\\{") && !lines[i].contains("class")) {
                start = i;
            }
            if (lines[i].matches("( {4}){1,2}\\}") && i - start > 60 && !lines[start].isBlank() && start > 0
                    && indent(lines[i]) == indent(lines[start])) {
                DUE.tell("a method of over sixty lines behind line " + (start + 1));
            }
        }
    }

    private static int indent(String line) {
        return line.length() - line.stripLeading().length();
    }
}
