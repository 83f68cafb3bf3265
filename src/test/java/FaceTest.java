import java.io.IOException;
import java.lang.reflect.Constructor;
import java.lang.reflect.Field;
import java.lang.reflect.Method;
import java.lang.reflect.Modifier;
import java.nio.charset.StandardCharsets;
import java.nio.file.Files;
import java.nio.file.Path;
import java.util.ArrayList;
import java.util.Collections;
import java.util.List;

/** The face of the class, and the rules of LANGUAGE.md that can be seen from outside. */
public final class FaceTest {
    private static final String INDEX = "IndexOutOfBoundsException ";
    private static final String ARGUMENT = "IllegalArgumentException ";
    private static final String STATE = "IllegalStateException ";

    private FaceTest() {
    }

    public static void main(String[] args) throws IOException {
        constants();
        methods();
        members();
        source();
        Check.end("FaceTest");
    }

    private static void constants() {
        Check.due("NONE", SusuRing.NONE, -1);
        Check.due("LOT", SusuRing.LOT, 0);
        Check.due("AGE", SusuRing.AGE, 1);
        Check.due("NEED", SusuRing.NEED, 2);
        Check.due("BID", SusuRing.BID, 3);
    }

    private static void methods() {
        List<String> due = new ArrayList<>();
        due.add("person(int int ) " + ARGUMENT + STATE);
        due.add("earn(int int ) " + INDEX + ARGUMENT + STATE);
        due.add("die(int int ) " + INDEX + ARGUMENT + STATE);
        due.add("circle(int int ) " + ARGUMENT + STATE);
        due.add("enter(int int ) " + INDEX + STATE);
        due.add("start(int int ) " + INDEX + ARGUMENT + STATE);
        due.add("want(int int int boolean ) " + INDEX + ARGUMENT + STATE);
        due.add("meet(int boolean ) " + INDEX + STATE);
        due.add("leave(int int ) " + INDEX + STATE);
        due.add("buy(int int ) " + INDEX + ARGUMENT + STATE);
        due.add("borrow(int int int int ) " + INDEX + ARGUMENT + STATE);
        due.add("repay(int int ) " + INDEX + ARGUMENT + STATE);
        due.add("month(boolean ) ");
        due.add("feast() " + STATE);
        due.add("note(int int int ) " + INDEX + ARGUMENT);
        due.add("audit(int ) " + INDEX);
        due.add("of(int int ) " + INDEX + ARGUMENT);
        due.add("member(int int int ) " + INDEX + ARGUMENT);
        due.add("ofCircle(int int ) " + INDEX + ARGUMENT);
        due.add("cash() ");
        due.add("coins() ");
        List<String> got = new ArrayList<>();
        for (Method method : SusuRing.class.getDeclaredMethods()) {
            if (!Modifier.isPrivate(method.getModifiers())) {
                got.add(signature(method));
                Check.due(method.getName() + " is public only", method.getModifiers(), Modifier.PUBLIC);
                Check.due(method.getName() + " answers an int", method.getReturnType().getName(), "int");
            }
        }
        Collections.sort(due);
        Collections.sort(got);
        Check.due("the methods", got.toString(), due.toString());
    }

    private static String signature(Method method) {
        StringBuilder text = new StringBuilder(method.getName()).append('(');
        for (Class<?> type : method.getParameterTypes()) {
            text.append(type.getName()).append(' ');
        }
        text.append(") ");
        for (Class<?> type : method.getExceptionTypes()) {
            text.append(type.getSimpleName()).append(' ');
        }
        return text.toString();
    }

    private static void members() {
        Check.due("the class is public and final", SusuRing.class.getModifiers(), Modifier.PUBLIC | Modifier.FINAL);
        Constructor<?>[] constructors = SusuRing.class.getDeclaredConstructors();
        Check.due("constructors", constructors.length, 1);
        Check.due("parameters of it", constructors[0].getParameterCount(), 0);
        int constants = 0;
        for (Field field : SusuRing.class.getDeclaredFields()) {
            boolean open = !Modifier.isPrivate(field.getModifiers());
            constants += open ? 1 : 0;
            Check.due(field.getName() + " is a constant or private",
                open && !(Modifier.isStatic(field.getModifiers()) && Modifier.isFinal(field.getModifiers())) ? 1 : 0, 0);
        }
        Check.due("public constants", constants, 5);
        for (Class<?> inside : SusuRing.class.getDeclaredClasses()) {
            Check.due(inside.getName() + " is static", Modifier.isStatic(inside.getModifiers()) ? 1 : 0, 1);
            for (Method method : inside.getDeclaredMethods()) {
                Check.due(method.getName() + " bears no name of the face", isOfFace(method.getName()) ? 1 : 0, 0);
            }
        }
    }

    private static boolean isOfFace(String name) {
        for (Method method : SusuRing.class.getDeclaredMethods()) {
            if (method.getName().equals(name) && !Modifier.isPrivate(method.getModifiers())) {
                return true;
            }
        }
        return false;
    }

    /** Words that LANGUAGE.md leaves out, looked for in the source without its comments. */
    private static void source() throws IOException {
        String text = Files.readString(Path.of("src/main/java/SusuRing.java"), StandardCharsets.UTF_8);
        String code = text.replaceAll("(?s)/\\*.*?\\*/", "").replaceAll("//[^\n]*", "");
        String[] left = {"->", "::", "try", "catch", "finally", "synchronized", "assert", "package ", "static {",
            "Exact(", "hashCode", "toString", "Random", "System.", "Thread", "\" +", "+ \""};
        for (String word : left) {
            Check.due("the source has '" + word + "'", code.contains(word) ? 1 : 0, 0);
        }
        Check.due("imports", code.replaceAll("import java.util.(ArrayList|List|Arrays|Iterator);", "").contains("import")
            ? 1 : 0, 0);
        Check.due("signs above 127", code.chars().anyMatch(sign -> sign > 127) ? 1 : 0, 0);
    }
}
