import java.lang.reflect.InvocationTargetException;
import java.lang.reflect.Method;
import java.lang.reflect.Modifier;
import java.util.Arrays;
import java.util.Comparator;

/** Counts answers that are not as due; the tests' mains end with exit code 1 if there was one. */
final class Check {
    /** A call whose answer or exception is asked for. */
    interface Call {
        long run();
    }

    private static String test = "";
    private static int wrong = 0;
    private static int asked = 0;

    private Check() {
    }

    /** Runs each test of the class: its static methods without parameters, all of which say what they hold it to. */
    static void run(Class<?> tests) {
        Method[] methods = tests.getDeclaredMethods();
        Arrays.sort(methods, Comparator.comparing(Method::getName));
        int ran = 0;
        for (Method method : methods) {
            test = method.getName() + ": ";
            if (method.getAnnotationsByType(Says.class).length > 0) {
                runOne(method);
                ran++;
            } else if (method.getParameterCount() == 0 && method.getReturnType() == void.class
                    && !Modifier.isPrivate(method.getModifiers())) {
                fail("says nothing");
            }
        }
        test = "";
        System.out.println(tests.getName() + ": " + ran + " tests");
        finish(tests.getName());
    }

    private static void runOne(Method method) {
        int askedBefore = asked;
        try {
            method.invoke(null);
        } catch (InvocationTargetException e) {
            fail("threw " + e.getCause() + " at " + Arrays.toString(e.getCause().getStackTrace()));
        } catch (IllegalAccessException | IllegalArgumentException e) {
            fail("cannot be run: " + e);
        }
        if (asked == askedBefore) {
            fail("asks nothing");
        }
    }

    static void fail(String what) {
        wrong++;
        System.out.println(test + what);
    }

    static void due(String call, long got, long want) {
        asked++;
        if (got != want) {
            fail(call + " answered " + got + ", due is " + want);
        }
    }

    static void dueTrue(String what, boolean is) {
        asked++;
        if (!is) {
            fail(what + ": is not so");
        }
    }

    static void dueText(String call, String got, String want) {
        asked++;
        if (!got.equals(want)) {
            fail(call + " answered " + got + ", due is " + want);
        }
    }

    static void dueDouble(String call, double got, double want) {
        asked++;
        if (Double.doubleToLongBits(got) != Double.doubleToLongBits(want)) {
            fail(call + " answered " + got + ", due is " + want);
        }
    }

    /** The class must be the very one: a subclass would be one that the machine threw. */
    static void dueThrow(String call, Call it, Class<?> want) {
        asked++;
        try {
            long got = it.run();
            fail(call + " answered " + got + ", due is " + want.getName());
        } catch (RuntimeException e) {
            if (e.getClass() != want) {
                fail(call + " threw " + e + ", due is " + want.getName());
            }
        }
    }

    /** Also sees that the digest, which covers the whole state but for what the saved states hold, is as before. */
    static void dueThrowUnchanged(String call, Words words, Call it, Class<?> want) {
        long before = words.digest();
        dueThrow(call, it, want);
        due(call + " changed nothing: digest()", words.digest(), before);
    }

    static void finish(String tests) {
        System.out.println(tests + ": " + asked + " answers, " + wrong + " not as due");
        if (wrong != 0) {
            System.exit(1);
        }
    }

    static boolean tooManyWrong() {
        return wrong > 20;
    }
}
