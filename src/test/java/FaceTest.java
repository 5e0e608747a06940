import java.io.IOException;
import java.lang.reflect.Constructor;
import java.lang.reflect.Field;
import java.lang.reflect.Method;
import java.lang.reflect.Modifier;
import java.nio.charset.StandardCharsets;
import java.nio.file.Files;
import java.nio.file.Path;
import java.util.ArrayList;
import java.util.Arrays;
import java.util.List;
import java.util.TreeSet;
import java.util.stream.Collectors;

/** The class shows exactly the document's face, and its source keeps to some rules of LANGUAGE.md. */
public final class FaceTest {
    private static final Path SOURCE = Path.of("src/main/java/StowagePlan.java");
    private static final String[] FACE = {
        "int addContainer(int, int, int, int) throws IllegalArgumentException, IllegalStateException",
        "int container(int, int) throws IndexOutOfBoundsException",
        "int setLimits(int, int, int) throws IllegalArgumentException",
        "boolean setPlug(int, int, boolean) throws IndexOutOfBoundsException, IllegalStateException",
        "boolean canLoad(int, int, int) throws IndexOutOfBoundsException",
        "int load(int, int, int) throws IndexOutOfBoundsException, IllegalStateException",
        "int lift(int, int) throws IndexOutOfBoundsException, IllegalStateException",
        "int plan()",
        "int sail() throws IllegalStateException",
        "int port()",
        "int at(int, int, int) throws IndexOutOfBoundsException",
        "int where(int) throws IndexOutOfBoundsException",
        "int moment(boolean)",
        "double height()",
        "boolean isSteady()",
        "int count(boolean)",
        "int weight(int) throws IndexOutOfBoundsException",
        "int blocked()",
        "int lifts(int) throws IndexOutOfBoundsException",
        "int freePlugs()",
        "int choices(int) throws IndexOutOfBoundsException",
        "int lifted()",
        "long digest()",
    };

    private static final List<String> faults = new ArrayList<>();

    private static String names(Class<?>[] types) {
        return Arrays.stream(types).map(Class::getSimpleName).collect(Collectors.joining(", "));
    }

    private static String signature(Method method) {
        String thrown = names(method.getExceptionTypes());
        return method.getReturnType().getSimpleName() + " " + method.getName()
                + "(" + names(method.getParameterTypes()) + ")" + (thrown.isEmpty() ? "" : " throws " + thrown);
    }

    private static void check(boolean holds, String what) {
        if (!holds) {
            faults.add(what);
        }
    }

    private static void checkMethods() {
        TreeSet<String> shown = new TreeSet<>();
        TreeSet<String> publicNames = new TreeSet<>();
        TreeSet<String> privateNames = new TreeSet<>();
        for (Method method : StowagePlan.class.getDeclaredMethods()) {
            if (method.isSynthetic()) {
                continue;
            }
            if (Modifier.isPrivate(method.getModifiers())) {
                privateNames.add(method.getName());
            } else {
                shown.add(signature(method));
                publicNames.add(method.getName());
                check(Modifier.isPublic(method.getModifiers()), method + " is not public");
                check(!Modifier.isStatic(method.getModifiers()), method + " is static");
            }
        }
        TreeSet<String> due = new TreeSet<>(Arrays.asList(FACE));
        check(shown.equals(due), "the face is " + shown + ", due is " + due);
        privateNames.retainAll(publicNames);
        check(privateNames.isEmpty(), "private methods bear public names: " + privateNames);
    }

    private static void checkTheRest() {
        check(StowagePlan.class.getModifiers() == (Modifier.PUBLIC | Modifier.FINAL), "not public and final");
        Constructor<?>[] made = StowagePlan.class.getDeclaredConstructors();
        check(made.length == 1 && Modifier.isPublic(made[0].getModifiers()) && made[0].getParameterCount() == 0
                && made[0].getExceptionTypes().length == 0, "not one public constructor without parameters");
        for (Field field : StowagePlan.class.getDeclaredFields()) {
            check(Modifier.isPrivate(field.getModifiers()), field + " is not private");
            check(!Modifier.isStatic(field.getModifiers()) || Modifier.isFinal(field.getModifiers()),
                    field + " is static and not final");
        }
        for (Class<?> inside : StowagePlan.class.getDeclaredClasses()) {
            check(Modifier.isStatic(inside.getModifiers()) && !Modifier.isPublic(inside.getModifiers()),
                    inside + " is public or not static");
        }
    }

    private static void checkSource() throws IOException {
        String text = Files.readString(SOURCE, StandardCharsets.UTF_8);
        for (String word : new String[] {"import ", "package ", "catch", "finally", "synchronized", "assert ",
                "->", "::", "static final double", "static final float", "Exact("}) {
            check(!text.contains(word), "the source holds '" + word + "'");
        }
        check(text.chars().allMatch(sign -> sign < 128), "the source holds a sign beyond 127");
    }

    public static void main(String[] args) throws IOException {
        checkMethods();
        checkTheRest();
        checkSource();
        for (String fault : faults) {
            System.out.println(fault);
        }
        System.out.println(faults.isEmpty() ? "the face is as due" : faults.size() + " faults");
        if (!faults.isEmpty()) {
            System.exit(1);
        }
    }
}
