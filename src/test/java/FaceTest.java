import java.lang.reflect.Constructor;
import java.lang.reflect.Field;
import java.lang.reflect.Member;
import java.lang.reflect.Method;
import java.lang.reflect.Modifier;
import java.util.Arrays;
import java.util.TreeSet;

/** The class's face is the document's, and nothing more can be seen of it. */
public final class FaceTest {
    private static final String I = "IllegalArgumentException";
    private static final String N = "NoSuchElementException";
    private static final String[] FACE = {
        "int feed 5 ", "int table 1 " + I, "int fault 0 ", "int make 3 " + I, "void keep 0 ", "int product 0 ",
        "int count 1 " + N, "int fuses 3 " + N, "int law 1 " + N, "int dual 1 " + N, "int size 1 " + N,
        "int ways 3 " + N, "int list 2 " + I, "int take 1 " + N, "void field 1 " + I, "int character 2 " + N,
        "boolean tell 7 " + N, "boolean swap 4 " + N, "boolean twist 2 " + N, "int told 7 " + N,
        "int check 1 " + N, "int broken 1 " + N, "int solve 1 " + N, "int s 3 " + N, "int holds 1 " + N,
        "int turned 3 " + N, "int letter 1 ", "int braid 3 " + N, "boolean back 0 ", "boolean again 0 ",
        "void image 0 ", "boolean restore 0 "
    };

    public static void main(String[] args) {
        Due due = new Due("face");
        TreeSet<String> seen = new TreeSet<>();
        for (Method method : FuseKinds.class.getDeclaredMethods()) {
            if (isSeen(method)) {
                StringBuilder row = new StringBuilder(method.getReturnType().getName()).append(' ');
                row.append(method.getName()).append(' ').append(method.getParameterCount()).append(' ');
                for (Class<?> thrown : method.getExceptionTypes()) {
                    row.append(thrown.getSimpleName());
                }
                seen.add(row.toString());
                for (Class<?> type : method.getParameterTypes()) {
                    due.same("a number of " + method.getName(), type, int.class);
                }
            }
        }
        due.same("methods", seen, new TreeSet<>(Arrays.asList(FACE)));
        for (Field field : FuseKinds.class.getDeclaredFields()) {
            due.same("field " + field.getName(), isSeen(field), field.getName().equals("NONE"));
        }
        Constructor<?>[] constructors = FuseKinds.class.getDeclaredConstructors();
        due.same("constructors", constructors.length, 1);
        due.same("constructor is public", Modifier.isPublic(constructors[0].getModifiers()), true);
        due.same("class is final", Modifier.isFinal(FuseKinds.class.getModifiers()), true);
        due.same("NONE", FuseKinds.NONE, -1);
        newObject(due);
        due.end();
    }

    private static boolean isSeen(Member member) {
        return !Modifier.isPrivate(member.getModifiers()) && !member.isSynthetic();
    }

    /** Promise 1. */
    private static void newObject(Due due) {
        FuseKinds x = new FuseKinds();
        int[] counts = {1, 1, 7, 0, 0, 0, 0, 0, 0, 0};
        for (int what = 0; what < counts.length; what++) {
            due.same("new count " + what, x.count(what), counts[what]);
        }
        due.same("new fuses", x.fuses(0, 0, 0), 1);
        due.same("new fault", x.fault(), -1);
        due.same("new product", x.product(), -1);
        due.same("new restore", x.restore(), false);
        due.same("new back", x.back(), false);
        due.same("new again", x.again(), false);
        due.noSuch("new take", () -> x.take(0));
        due.noSuch("new kind 1", () -> x.fuses(0, 1, 1));
        due.same("new F", x.told(0, 0, 0, 0, 0, 0, 0), 1);
        due.same("new R", x.told(1, 0, 0, 0, 0, 0, 0), 1);
        due.same("new t", x.told(2, 0, 0, 0, 0, 0, 0), 1);
    }
}
