import java.lang.reflect.InvocationTargetException;
import java.lang.reflect.Method;
import java.lang.reflect.Modifier;
import java.util.Arrays;
import java.util.Comparator;
import java.util.NoSuchElementException;

/** What all tests use: answers are compared, wrong ones printed, and the exit code tells whether there was one. */
final class Check {
    interface Call {
        long answer();
    }

    /** Answers that stand for exceptions, far from all that a call can answer. */
    static final long NO_SUCH = 1L << 40;
    static final long ILLEGAL = 1L << 41;

    private final String name;
    private int seen;
    private int wrong;

    Check(String name) {
        this.name = name;
    }

    static long of(Call call) {
        try {
            return call.answer();
        } catch (NoSuchElementException e) {
            return e.getClass() == NoSuchElementException.class ? NO_SUCH : 0xBAD;
        } catch (IllegalArgumentException e) {
            return e.getClass() == IllegalArgumentException.class ? ILLEGAL : 0xBAD;
        }
    }

    void same(String what, long due, Call call) {
        seen++;
        long got = of(call);
        if (got != due) {
            wrong++;
            if (wrong < 40) {
                System.out.println(name + ": " + what + " answered " + told(got) + ", due is " + told(due));
            }
        }
    }

    void yes(String what, Call call) {
        same(what, 1, call);
    }

    void noSuch(String what, Call call) {
        same(what, NO_SUCH, call);
    }

    void illegal(String what, Call call) {
        same(what, ILLEGAL, call);
    }

    /** Runs every test of a class: its private static methods without parameters, so that none is forgotten. */
    void runEach(Class<?> tests) {
        Method[] methods = tests.getDeclaredMethods();
        Arrays.sort(methods, Comparator.comparing(Method::getName));
        int ran = 0;
        for (Method m : methods) {
            if (Modifier.isPrivate(m.getModifiers()) && !m.isSynthetic() && m.getParameterCount() == 0
                    && m.getReturnType() == void.class) {
                runOne(m);
                ran++;
            }
        }
        System.out.println(name + ": " + ran + " tests");
        finish();
    }

    private void runOne(Method test) {
        int before = wrong;
        try {
            test.setAccessible(true);
            test.invoke(null);
        } catch (IllegalAccessException | InvocationTargetException e) {
            wrong++;
            System.out.println(name + ": " + e.getCause());
        }
        if (wrong > before) {
            System.out.println(name + ": in " + test.getName());
        }
    }

    private static String told(long answer) {
        return answer == NO_SUCH ? "NoSuchElementException"
                : answer == ILLEGAL ? "IllegalArgumentException" : Long.toString(answer);
    }

    void finish() {
        System.out.println(name + ": " + seen + " answers, " + wrong + " wrong");
        if (wrong != 0) {
            System.exit(1);
        }
    }

    /** Feeds a text and reads it. */
    static int table(TasterTable x, String text) {
        feed(x, text);
        return x.table(text.length());
    }

    static void feed(TasterTable x, String text) {
        for (int from = 0; from < text.length(); from += 20) {
            x.feed(number(text, from), number(text, from + 4), number(text, from + 8),
                    number(text, from + 12), number(text, from + 16));
        }
    }

    private static int number(String text, int from) {
        int made = 0;
        for (int i = from; i < from + 4; i++) {
            made = made << 8 | (i < text.length() ? text.charAt(i) & 255 : ' ');
        }
        return made;
    }

    static TasterTable made(String text) {
        TasterTable x = new TasterTable();
        int fault = table(x, text);
        if (fault != 0) {
            throw new IllegalStateException("a test's text has fault " + fault + " at " + x.fault() + ": " + text);
        }
        return x;
    }
}
