import java.lang.reflect.Constructor;
import java.lang.reflect.Field;
import java.lang.reflect.Method;
import java.lang.reflect.Modifier;
import java.nio.file.Files;
import java.nio.file.Path;
import java.util.Arrays;
import java.util.Set;
import java.util.TreeSet;

/** The public face, the constants, and what of the language's rules can be seen from outside. */
public final class FaceTest {
    private static final String[] FACE = {
        "int as(int,int)", "int back(int)", "long cell(int,int,int)", "int copy(int,int,int,int,int)",
        "int court(int,int,int,int)", "int fault()", "int greet(int)", "int kinds(int,int,int,int,int)",
        "int knows(int,int)", "int lose(int)", "int many(int)", "long odds(int,int,int,int)",
        "int ofHead(int,int)", "int plan(int,int,int)", "int put(int,int,int)",
        "int reading(int,int,int)", "int sheet(int,int,int)", "int tell(int)", "int trace()",
        "int visits(int,int,int,int,int)", "int wear(int,int)", "int wears(int,int,int,int,int)",
        "int who(int,int,int,int,int)"};

    public static void main(String[] args) throws Exception {
        Check check = new Check("FaceTest");
        constants(check);
        methods(check);
        fields(check);
        nested(check);
        words(check);
        check.end();
    }

    private static void constants(Check check) {
        check.due("UNKNOWN", FaceGlass.UNKNOWN, -1);
        check.due("OUTSIDE", FaceGlass.OUTSIDE, -2);
        check.due("STATE", FaceGlass.STATE, -3);
        check.due("FULL", FaceGlass.FULL, -4);
        check.due("NONE", FaceGlass.NONE, -9);
        check.due("LOST", FaceGlass.LOST, Long.MIN_VALUE);
    }

    private static String told(Method method) {
        StringBuilder text = new StringBuilder();
        for (Class<?> type : method.getParameterTypes()) {
            text.append(text.length() == 0 ? "" : ",").append(type.getSimpleName());
        }
        return method.getReturnType().getSimpleName() + " " + method.getName() + "(" + text + ")";
    }

    private static void methods(Check check) {
        Set<String> open = new TreeSet<>();
        Set<String> openNames = new TreeSet<>();
        Set<String> closedNames = new TreeSet<>();
        for (Method method : FaceGlass.class.getDeclaredMethods()) {
            if (Modifier.isPrivate(method.getModifiers())) {
                closedNames.add(method.getName());
            } else {
                open.add(told(method));
                openNames.add(method.getName());
            }
        }
        check.due("methods " + open, open.equals(new TreeSet<>(Arrays.asList(FACE))) ? 1 : 0, 1);
        closedNames.retainAll(openNames);
        check.due("private methods with public names " + closedNames, closedNames.size(), 0);
        Constructor<?>[] made = FaceGlass.class.getDeclaredConstructors();
        check.due("constructors", made.length, 1);
        check.due("constructor's modifiers", made[0].getModifiers(), Modifier.PUBLIC);
        check.due("class's modifiers", FaceGlass.class.getModifiers(), Modifier.PUBLIC | Modifier.FINAL);
    }

    private static void fields(Check check) {
        Set<String> open = new TreeSet<>();
        for (Field field : FaceGlass.class.getDeclaredFields()) {
            boolean constant = Modifier.isStatic(field.getModifiers());
            check.due("static " + field.getName() + " final",
                constant && !Modifier.isFinal(field.getModifiers()) ? 1 : 0, 0);
            if (!Modifier.isPrivate(field.getModifiers())) {
                open.add(field.getName());
            }
        }
        Set<String> due = new TreeSet<>(Arrays.asList("UNKNOWN", "OUTSIDE", "STATE", "FULL", "NONE", "LOST"));
        check.due("fields " + open, open.equals(due) ? 1 : 0, 1);
    }

    private static void nested(Check check) {
        Class<?>[] inside = FaceGlass.class.getDeclaredClasses();
        check.due("at most twelve classes", inside.length <= 12 ? 1 : 0, 1);
        for (Class<?> one : inside) {
            check.due(one.getName() + " is static", Modifier.isStatic(one.getModifiers()) ? 1 : 0, 1);
            check.due(one.getName() + " is public", Modifier.isPublic(one.getModifiers()) ? 1 : 0, 0);
        }
    }

    private static void words(Check check) throws Exception {
        String source = Files.readString(Path.of("src/main/java/FaceGlass.java"))
            .replaceAll("(?s)/\\*.*?\\*/", " ").replaceAll("//[^\\n]*", " ");
        for (String word : new String[] {"throw", "try", "catch", "synchronized", "assert", "import", "package",
            "protected", "Exact", "double", "float"}) {
            boolean there = source.matches("(?s).*\\b" + word + "\\b.*");
            check.due("the word " + word, there ? 1 : 0, 0);
        }
        check.due("lambdas and references", source.contains("->") || source.contains("::") ? 1 : 0, 0);
        check.due("constants of a new kind of sign", source.chars().anyMatch(c -> c > 127) ? 1 : 0, 0);
    }
}
