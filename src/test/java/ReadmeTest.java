import java.io.IOException;
import java.lang.reflect.Method;
import java.lang.reflect.Modifier;
import java.nio.charset.StandardCharsets;
import java.nio.file.Files;
import java.nio.file.Path;
import java.util.List;

/** README.md shows these calls with these answers, and names each call of the face. */
public final class ReadmeTest {
    private static int wrong = 0;
    private static List<String> lines;

    private static void check(boolean holds, String what) {
        if (!holds) {
            wrong++;
            System.out.println(what);
        }
    }

    /** The example holds this line, and its comment begins with the answer. */
    private static void shown(String code, Object answer) {
        for (String line : lines) {
            if (line.startsWith(code)) {
                String told = line.substring(code.length()).replaceFirst("^ *// ", "").split("[,:]", 2)[0];
                check(told.equals("" + answer), "README.md tells '" + told + "' for '" + code + "', due is " + answer);
                return;
            }
        }
        check(false, "README.md does not hold '" + code + "'");
    }

    private static void checkExample() {
        StowagePlan plan = new StowagePlan();
        int steel = plan.addContainer(20, 0, 1, 0);
        shown("int steel = plan.addContainer(20, 0, 1, 0);", steel);
        int fish = plan.addContainer(15, 0, 3, 1);
        shown("int fish = plan.addContainer(15, 0, 3, 1);", fish);
        int paper = plan.addContainer(10, 0, 2, 0);
        shown("int paper = plan.addContainer(10, 0, 2, 0);", paper);
        shown("boolean fits = plan.canLoad(fish, 0, 2);", plan.canLoad(fish, 0, 2));
        shown("int tier = plan.load(steel, 2, 2);", plan.load(steel, 2, 2));
        shown("int loaded = plan.plan();", plan.plan());
        shown("int place = plan.where(fish);", plan.where(fish));
        shown("int blocked = plan.blocked();", plan.blocked());
        shown("boolean steady = plan.isSteady();", plan.isSteady());
        shown("int lifted = plan.sail();", plan.sail());
        shown("int state = plan.container(steel, 4);", plan.container(steel, 4));
    }

    private static void checkNames(String text) {
        for (Method method : StowagePlan.class.getDeclaredMethods()) {
            if (Modifier.isPublic(method.getModifiers())) {
                check(text.contains("`" + method.getName() + "("), "README.md does not name " + method.getName());
            }
        }
    }

    public static void main(String[] args) throws IOException {
        String text = Files.readString(Path.of("README.md"), StandardCharsets.UTF_8);
        lines = text.lines().toList();
        checkExample();
        checkNames(text);
        check(text.contains(".ci/run"), "README.md does not tell how the tests are run");
        System.out.println(wrong == 0 ? "README.md is as due" : wrong + " faults");
        if (wrong != 0) {
            System.exit(1);
        }
    }
}
