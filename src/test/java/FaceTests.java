import java.lang.reflect.Constructor;
import java.lang.reflect.Field;
import java.lang.reflect.Method;
import java.lang.reflect.Modifier;
import java.nio.file.Files;
import java.nio.file.Path;
import java.util.Arrays;
import java.util.List;
import java.util.Set;
import java.util.TreeSet;
import java.util.regex.Matcher;
import java.util.regex.Pattern;
import java.util.stream.Collectors;
import java.util.stream.Stream;

/** The class has the document's face and nothing more, and its source keeps to what of LANGUAGE.md can be read off. */
final class FaceTests {
    private static final String SOURCE = "src/main/java/TicketWeaver.java";
    private static final List<String> BARRED = List.of("\\btry\\b", "\\bcatch\\b", "\\bfinally\\b", "->", "::",
        "\\bsynchronized\\b", "\\bassert\\b", "\\bstatic \\{", "new \\w+Exception\\((?!(\"[^\"]*\")?\\);)", "\\bvar\\b",
        "Exact\\(", "[^\\x00-\\x7f]", "\"\\s*\\+|\\+\\s*\"");
    private static final Set<String> IMPORTS = Set.of("java.util.ArrayList", "java.util.Arrays",
        "java.util.NoSuchElementException");

    private final Checks checks;

    FaceTests(Checks checks) {
        this.checks = checks;
    }

    void run(Path shared) {
        checks.test("the face is the document's", () -> checks.due(faceOf(shared.resolve("DOC.md")), faceOfClass()));
        checks.test("no member else is to be seen from outside", this::noOtherMember);
        checks.test("the classes inside keep to rules 1 and 11", this::classesInside);
        checks.test("the source keeps to the rules that can be read off it", this::source);
    }

    private static TreeSet<String> faceOf(Path document) throws Exception {
        Matcher member = Pattern.compile("(?m)^    (public [^;]+);").matcher(Files.readString(document));
        TreeSet<String> face = new TreeSet<>();
        while (member.find()) {
            face.add(member.group(1).replaceAll("(int|boolean) \\w+(?=[,)])", "$1"));
        }
        return face;
    }

    private static TreeSet<String> faceOfClass() {
        TreeSet<String> face = new TreeSet<>();
        for (Constructor<?> made : TicketWeaver.class.getConstructors()) {
            face.add("public TicketWeaver(" + names(made.getParameterTypes()) + ")");
        }
        for (Method method : TicketWeaver.class.getDeclaredMethods()) {
            if (Modifier.isPublic(method.getModifiers())) {
                String thrown = names(method.getExceptionTypes());
                face.add("public " + method.getReturnType().getSimpleName() + " " + method.getName() + "("
                    + names(method.getParameterTypes()) + ")" + (thrown.isEmpty() ? "" : " throws " + thrown));
            }
        }
        return face;
    }

    private static String names(Class<?>[] types) {
        return Arrays.stream(types).map(Class::getSimpleName).collect(Collectors.joining(", "));
    }

    private void noOtherMember() {
        checks.due(true, Modifier.isFinal(TicketWeaver.class.getModifiers()));
        checks.due(1, TicketWeaver.class.getDeclaredConstructors().length);
        Set<String> face = Arrays.stream(TicketWeaver.class.getMethods()).map(Method::getName)
            .collect(Collectors.toSet());
        for (Method method : TicketWeaver.class.getDeclaredMethods()) {
            int modifiers = method.getModifiers();
            checks.due(true, Modifier.isPublic(modifiers) || Modifier.isPrivate(modifiers));
            checks.due(false, Modifier.isPrivate(modifiers) && face.contains(method.getName()));
        }
        for (Field field : TicketWeaver.class.getDeclaredFields()) {
            checks.due(true, Modifier.isPrivate(field.getModifiers()));
        }
    }

    private void classesInside() {
        Class<?>[] inside = TicketWeaver.class.getDeclaredClasses();
        checks.due(true, inside.length <= 12);
        for (Class<?> one : Stream.concat(Stream.of(TicketWeaver.class), Stream.of(inside)).toList()) {
            long fields = Arrays.stream(one.getDeclaredFields())
                .filter(f -> !Modifier.isStatic(f.getModifiers())).count();
            checks.due(true, fields <= 20);
            for (Field field : one.getDeclaredFields()) {
                checks.due(false, Modifier.isStatic(field.getModifiers()) && !Modifier.isFinal(field.getModifiers()));
            }
            if (one != TicketWeaver.class) {
                checks.due(true, Modifier.isStatic(one.getModifiers()));
                checks.due(false, Modifier.isPublic(one.getModifiers()));
            }
        }
    }

    private void source() throws Exception {
        String text = Files.readString(Path.of(SOURCE));
        Matcher imported = Pattern.compile("(?m)^import (.*);").matcher(text);
        while (imported.find()) {
            checks.due(true, IMPORTS.contains(imported.group(1)));
        }
        String code = text.replaceAll("(?s)/\\*.*?\\*/", "").replaceAll("//.*", "");
        for (String barred : BARRED) {
            String found = Pattern.compile(barred).matcher(code).find() ? "some" : "none";
            checks.due(barred + ": none", barred + ": " + found);
        }
    }
}
