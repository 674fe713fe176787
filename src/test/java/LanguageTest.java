import java.io.IOException;
import java.lang.reflect.Constructor;
import java.lang.reflect.Field;
import java.lang.reflect.Method;
import java.lang.reflect.Modifier;
import java.nio.file.Files;
import java.nio.file.Path;
import java.util.ArrayList;
import java.util.Arrays;
import java.util.List;
import java.util.TreeSet;
import java.util.regex.Matcher;
import java.util.regex.Pattern;

/** The face as the document has it, and the rules of LANGUAGE.md that can be seen from the source or by reflection. */
final class LanguageTest {
    private static final String[] FACE = {
        "int feed(int,int,int,int,int)", "boolean end(int)",
        "int town() throws IllegalArgumentException,UnsupportedOperationException", "int law() throws IllegalArgumentException",
        "int fault()", "int person(int,int) throws IndexOutOfBoundsException,NoSuchElementException",
        "int liking(int,int) throws IndexOutOfBoundsException,IllegalArgumentException",
        "int match(int,int) throws IndexOutOfBoundsException,NoSuchElementException",
        "boolean ask(int,int) throws IndexOutOfBoundsException,IllegalArgumentException",
        "int wed(int,int) throws IndexOutOfBoundsException,IllegalArgumentException,IllegalStateException,"
            + "UnsupportedOperationException",
        "int gift(int,int) throws IndexOutOfBoundsException,IllegalStateException",
        "int meddle(int,int) throws IndexOutOfBoundsException,IllegalStateException",
        "int reinsure(int,int) throws IndexOutOfBoundsException,IllegalArgumentException",
        "int part(int) throws IndexOutOfBoundsException,IllegalStateException",
        "int months(int) throws IllegalArgumentException",
        "int would(int,int) throws IndexOutOfBoundsException,IllegalArgumentException",
        "int best(int) throws IndexOutOfBoundsException",
        "int next(int,int) throws IndexOutOfBoundsException,IllegalArgumentException",
        "int ahead(int,int,int) throws IndexOutOfBoundsException,IllegalArgumentException",
        "int first(int,int) throws IndexOutOfBoundsException,IllegalArgumentException",
        "int odds(int) throws IndexOutOfBoundsException", "int falls()",
        "int loses(int) throws IndexOutOfBoundsException", "int holds(int) throws IndexOutOfBoundsException",
        "int ring(int) throws IndexOutOfBoundsException", "int rings()", "int leans(int) throws IndexOutOfBoundsException",
        "int gifts(int,int,int) throws IndexOutOfBoundsException,IllegalArgumentException",
        "int rather(int) throws IndexOutOfBoundsException", "int lovers(boolean)",
        "int steady(int) throws IndexOutOfBoundsException", "int weddings()",
        "int anniversary(boolean) throws IllegalArgumentException", "int dance() throws IllegalArgumentException",
        "int richest()", "int trial(int,boolean) throws IllegalArgumentException",
        "int span(int,boolean) throws IllegalArgumentException", "int led(int,boolean) throws IndexOutOfBoundsException",
        "int log(int,int) throws NoSuchElementException", "int seed(int)", "boolean undo()", "void image()", "boolean back()",
        "int count(int)"};

    private static final String[] FORBIDDEN = {"->", "::", "@", "%s", "synchronized", "assert ", "finally", "static {", "yield",
        "float", "double", ".hashCode(", ".toString(", "Exact(", "System.out", "System.nano", "System.current", "Thread",
        "Random", "catch", ".ordinal(", ".name(", "Object", "var ", "equals(", "package "};

    public static void main(String[] args) throws IOException {
        face();
        members();
        source(Files.readString(Path.of("src/main/java/RivalWeds.java")));
        Due.close("LanguageTest");
    }

    private static void face() {
        TreeSet<String> due = new TreeSet<>(Arrays.asList(FACE));
        TreeSet<String> got = new TreeSet<>();
        for (Method method : RivalWeds.class.getDeclaredMethods()) {
            if (Modifier.isPublic(method.getModifiers())) {
                got.add(told(method));
            } else if (!Modifier.isPrivate(method.getModifiers()) && !method.isSynthetic()) {
                Due.fail("rule 1: " + method);
            }
        }
        if (!due.equals(got)) {
            TreeSet<String> more = new TreeSet<>(got);
            more.removeAll(due);
            due.removeAll(got);
            Due.fail("rule 1: the face lacks " + due + ", has " + more);
        }
        int modifiers = RivalWeds.class.getModifiers();
        Due.due("public and final", Modifier.isPublic(modifiers) && Modifier.isFinal(modifiers), true);
        Constructor<?>[] constructors = RivalWeds.class.getDeclaredConstructors();
        Due.due("one constructor", constructors.length, 1);
        Due.due("without parameters", constructors[0].getParameterCount(), 0);
        Due.due("NONE", RivalWeds.NONE, -1);
    }

    private static String told(Method method) {
        List<String> parameters = new ArrayList<>();
        for (Class<?> type : method.getParameterTypes()) {
            parameters.add(type.getSimpleName());
        }
        List<String> exceptions = new ArrayList<>();
        for (Class<?> type : method.getExceptionTypes()) {
            exceptions.add(type.getSimpleName());
        }
        return method.getReturnType().getSimpleName() + " " + method.getName() + "(" + String.join(",", parameters) + ")"
                + (exceptions.isEmpty() ? "" : " throws " + String.join(",", exceptions));
    }

    private static void members() {
        TreeSet<String> faceNames = new TreeSet<>();
        for (String one : FACE) {
            faceNames.add(one.substring(one.indexOf(' ') + 1, one.indexOf('(')));
        }
        Class<?>[] inside = RivalWeds.class.getDeclaredClasses();
        Due.due("some twelve classes", inside.length + 1 <= 12, true);
        for (Class<?> one : inside) {
            int modifiers = one.getModifiers();
            if (Modifier.isPublic(modifiers) || Modifier.isProtected(modifiers) || !Modifier.isStatic(modifiers)) {
                Due.fail("rule 1: " + one);
            }
            for (Method method : one.getDeclaredMethods()) {
                if (faceNames.contains(method.getName())) {
                    Due.fail("rule 1: a name of the face: " + method);
                }
            }
        }
        List<Class<?>> all = new ArrayList<>(Arrays.asList(inside));
        all.add(RivalWeds.class);
        for (Class<?> one : all) {
            fields(one);
            for (Method method : one.getDeclaredMethods()) {
                if (method.getParameterCount() > 7) {
                    Due.fail("rule 11: " + method);
                }
            }
        }
    }

    private static void fields(Class<?> one) {
        int own = 0;
        for (Field field : one.getDeclaredFields()) {
            int modifiers = field.getModifiers();
            if (Modifier.isStatic(modifiers)) {
                if (!Modifier.isFinal(modifiers)) {
                    Due.fail("rule 5: " + field);
                }
            } else {
                own++;
            }
            boolean constant = field.getName().equals("NONE");
            if (one == RivalWeds.class && !constant && !Modifier.isPrivate(modifiers)) {
                Due.fail("rule 1: " + field);
            }
        }
        if (own > 20) {
            Due.fail("rule 11: " + one + " has " + own + " fields");
        }
    }

    private static void source(String source) {
        String code = source.replaceAll("(?s)/\\*.*?\\*/", "").replaceAll("//[^\n]*", "").replaceAll("\"[^\"\n]*\"", "\"\"");
        for (String one : FORBIDDEN) {
            if (code.contains(one)) {
                Due.fail("the source has " + one);
            }
        }
        Matcher imports = Pattern.compile("import ([^;]+);").matcher(code);
        while (imports.find()) {
            Due.due("import " + imports.group(1), imports.group(1).equals("java.util.NoSuchElementException"), true);
        }
        for (char sign : source.toCharArray()) {
            if (sign > 126) {
                Due.fail("a sign above 126");
                break;
            }
        }
        String[] lines = source.split("\n");
        int from = 0;
        for (int i = 0; i < lines.length; i++) {
            if (lines[i].matches(" {4}( {4})?[a-z].*\\{")) {
                from = i;
            }
            if (lines[i].matches(" {4}( {4})?\\}") && lines[from].matches(".*\\(.*") && i - from > 60) {
                Due.fail("rule 11: long: " + lines[from]);
            }
        }
    }
}
