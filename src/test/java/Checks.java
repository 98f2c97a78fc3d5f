import java.lang.reflect.InvocationTargetException;
import java.lang.reflect.Method;
import java.lang.reflect.Modifier;
import java.util.Arrays;
import java.util.Comparator;
import java.util.Objects;

/** Counts and prints the calls whose answer is not the one that is due. */
final class Checks {
    /** One fault can spoil thousands of answers: the first ones are enough to find it by. */
    private static final int MOST_PRINTED = 50;

    private long looked = 0;
    private long wrong = 0;
    private String where = "";

    /** Runs every method of the test that takes a Checks, so that no sentence's test can be forgotten. */
    static void runAll(Class<?> test) {
        Checks checks = new Checks();
        Method[] methods = test.getDeclaredMethods();
        Arrays.sort(methods, Comparator.comparing(Method::getName));
        for (Method m : methods) {
            if (isTest(m)) checks.run(test.getSimpleName(), m);
        }
        checks.same("there are tests", checks.looked > 0, true);
        checks.end();
    }

    private static boolean isTest(Method m) {
        return Modifier.isStatic(m.getModifiers()) && !Modifier.isPrivate(m.getModifiers())
            && Arrays.equals(m.getParameterTypes(), new Class<?>[] {Checks.class});
    }

    private void run(String test, Method m) {
        at(test + "." + m.getName());
        long before = looked;
        try {
            m.invoke(null, this);
        } catch (InvocationTargetException e) {
            same("what was thrown", e.getCause(), null);
        } catch (IllegalAccessException e) {
            same("what was thrown", e, null);
        }
        same("it looks at something", looked > before, true);
    }

    /** Tells what the calls that follow belong to. */
    void at(String where) {
        this.where = where;
    }

    void due(String call, long got, long want) {
        same(call, got, want);
    }

    void same(String call, Object got, Object want) {
        looked++;
        if (!Objects.equals(got, want)) {
            wrong++;
            if (wrong <= MOST_PRINTED) {
                System.out.println(where + ": " + call + " answered " + got + ", due is " + want);
            }
        }
    }

    /** What part(0) and part(1) tell. */
    void fraction(String what, MeetSets x, long above, long below) {
        due(what + ": part(0)", x.part(0), above);
        due(what + ": part(1)", x.part(1), below);
    }

    long wrong() {
        return wrong;
    }

    void end() {
        System.out.println(wrong == 0 ? "all " + looked + " answers are as due" : wrong + " answers are not as due");
        if (wrong != 0) {
            System.exit(1);
        }
    }
}
