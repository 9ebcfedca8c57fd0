import java.lang.reflect.Constructor;
import java.lang.reflect.Field;
import java.lang.reflect.Method;
import java.lang.reflect.Modifier;
import java.util.ArrayList;
import java.util.Arrays;
import java.util.Collections;
import java.util.List;

/** The public face, and nothing beside it. */
public final class FaceTest {
    private static final String[] METHODS = {
        "int best()", "int cancel()", "int cancelAll()", "int cash(int,int)", "int cashOf(int)",
        "int count(int)", "int day()", "int days()", "int debt(int,int)", "int drag(int)",
        "int falls(int)", "int help(int)", "int houses(int)", "int net(int)", "int owe(int,int,int)",
        "int owes(int)", "int ring(int)", "int rings()", "int rounds()", "int toll(int)",
        "long digest()", "long gross(int,int)", "long left(int,int)", "long lost(int)",
        "long pays(int,int,int)", "long share(int,int)"
    };

    public static void main(String[] args) {
        Check check = new Check("FaceTest");
        check.test("the constants", x -> {
            check.due("NONE", WhoPays.NONE, -1);
            check.due("UNKNOWN", WhoPays.UNKNOWN, -101);
            check.due("OUTSIDE", WhoPays.OUTSIDE, -102);
        });
        check.test("the class is public and final", x -> {
            int modifiers = WhoPays.class.getModifiers();
            check.due("public", Modifier.isPublic(modifiers) ? 1 : 0, 1);
            check.due("final", Modifier.isFinal(modifiers) ? 1 : 0, 1);
        });
        check.test("the methods, and no other that is not private", x -> {
            List<String> found = new ArrayList<>();
            for (Method method : WhoPays.class.getDeclaredMethods()) {
                if (!Modifier.isPrivate(method.getModifiers()) && !method.isSynthetic()) {
                    String types = Arrays.toString(method.getParameterTypes());
                    found.add(method.getReturnType() + " " + method.getName()
                            + "(" + types.substring(1, types.length() - 1).replace(" ", "") + ")");
                    check.due(method.getName() + " public", Modifier.isPublic(method.getModifiers()) ? 1 : 0, 1);
                }
            }
            Collections.sort(found);
            List<String> due = Arrays.asList(METHODS.clone());
            Collections.sort(due);
            check.due("the methods " + found, found.equals(due) ? 1 : 0, 1);
        });
        check.test("no field but the constants is seen", x -> {
            int seen = 0;
            for (Field field : WhoPays.class.getDeclaredFields()) {
                seen += Modifier.isPrivate(field.getModifiers()) ? 0 : 1;
            }
            check.due("fields", seen, 3);
        });
        check.test("one constructor", x -> {
            Constructor<?>[] all = WhoPays.class.getDeclaredConstructors();
            check.due("constructors", all.length, 1);
            check.due("its parameters", all[0].getParameterCount(), 0);
        });
        check.test("no argument makes a call throw, nor do calls beyond the 512th", x -> {
            int[] odd = {Integer.MIN_VALUE, -102, -101, -1, 0, 1, 2, 3, 4, 5, 50, 1000, Integer.MAX_VALUE};
            for (int n = 0; n <= 5; n++) {
                x.houses(n);
                for (int a : odd) {
                    for (int b : odd) {
                        for (int c : odd) {
                            x.owe(a, b, c);
                            x.pays(a, b, c);
                        }
                        x.cash(a, b);
                        x.debt(a, b);
                        x.share(a, b);
                        x.gross(a, b);
                        x.left(a, b);
                    }
                    x.toll(a);
                    x.cashOf(a);
                    x.owes(a);
                    x.falls(a);
                    x.lost(a);
                    x.drag(a);
                    x.help(a);
                    x.net(a);
                    x.ring(a);
                    x.count(a);
                    x.digest();
                }
                x.days();
                x.cancelAll();
            }
        });
        check.end();
    }
}
