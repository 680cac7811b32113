import java.lang.reflect.InvocationTargetException;
import java.lang.reflect.Method;
import java.lang.reflect.Modifier;
import java.util.Arrays;
import java.util.Comparator;

/** What the tests share: they compare answers, and tell towns as a user would. */
final class Check {
    private int wrong = 0;
    private int asked = 0;
    private final String what;
    /** The name of the test that runs, if runAll runs it. */
    private String test = "";

    Check(String what) {
        this.what = what;
    }

    /** Runs each test of a class: each static method without parameters. Its name is told where an answer is not as due. */
    void runAll(Class<?> tests) {
        Method[] methods = tests.getDeclaredMethods();
        Arrays.sort(methods, Comparator.comparing(Method::getName));
        int ran = 0;
        for (Method method : methods) {
            boolean plain = Modifier.isStatic(method.getModifiers()) && !method.isSynthetic();
            if (plain && method.getParameterCount() == 0 && method.getReturnType() == void.class) {
                runOne(method);
                ran++;
            }
        }
        System.out.println(what + ": " + ran + " tests");
        finish();
    }

    private void runOne(Method method) {
        test = "." + method.getName();
        int before = asked;
        try {
            method.setAccessible(true);
            method.invoke(null);
        } catch (InvocationTargetException thrown) {
            fail("threw " + thrown.getCause());
        } catch (ReflectiveOperationException thrown) {
            fail("can't be run: " + thrown);
        }
        if (asked == before) {
            fail("asks for nothing");
        }
        test = "";
    }

    private void fail(String how) {
        wrong++;
        System.out.println(what + test + ": " + how);
    }

    void due(String call, long got, long want) {
        asked++;
        if (got != want) {
            wrong++;
            if (wrong <= 50) {
                System.out.println(what + test + ": " + call + " answered " + got + ", due is " + want);
            }
        }
    }

    void due(String call, boolean got, boolean want) {
        due(call, got ? 1 : 0, want ? 1 : 0);
    }

    /** What lies there, all of it and nothing behind it. */
    void lies(String call, YearHands x, int... want) {
        due(call + ", about(17)", x.about(17), want.length);
        for (int i = 0; i < want.length; i++) {
            due(call + ", lies(" + i + ")", x.lies(i), want[i]);
        }
        due(call + ", lies(" + want.length + ")", x.lies(want.length), YearHands.GAP);
        due(call + ", lies(-1)", x.lies(-1), YearHands.GAP);
    }

    /** A text that has no FAULT: the object that it is told. */
    YearHands good(String text) {
        YearHands x = new YearHands();
        int people = tell(x, text);
        due(text + " is a TOWN", people != YearHands.NONE, true);
        due("FAULT of " + text, x.fault(0), 0);
        due("its place in " + text, x.fault(1), YearHands.NONE);
        return x;
    }

    /** A text whose FAULT is that one, at that place. */
    void bad(String text, int fault, int place) {
        YearHands x = new YearHands();
        due(text + " is no TOWN", tell(x, text), YearHands.NONE);
        due("FAULT of " + text, x.fault(0), fault);
        due("its place in " + text, x.fault(1), place);
    }

    /** The same, the place told by what stands ahead of it. */
    void badBehind(String ahead, String behind, int fault) {
        bad(ahead + behind, fault, ahead.length());
    }

    /** How many answers were looked at so far. */
    int asked() {
        return asked;
    }

    void finish() {
        System.out.println(what + ": " + asked + " answers, " + wrong + " not as due");
        if (wrong != 0) {
            System.exit(1);
        }
    }

    /** Puts a text on the TAPE, in place of what is there. */
    static void put(YearHands x, String text) {
        x.end(0);
        int whole = (text.length() + 19) / 20 * 20;
        for (int i = 0; i < whole; i += 20) {
            x.feed(four(text, i), four(text, i + 4), four(text, i + 8), four(text, i + 12), four(text, i + 16));
        }
        x.end(text.length());
    }

    private static int four(String text, int from) {
        int number = 0;
        for (int i = from; i < from + 4; i++) {
            number = number << 8 | (i < text.length() ? text.charAt(i) & 255 : 0);
        }
        return number;
    }

    static int tell(YearHands x, String text) {
        put(x, text);
        return x.town();
    }

    static YearHands town(String text) {
        YearHands x = new YearHands();
        if (tell(x, text) == YearHands.NONE) {
            throw new IllegalStateException("FAULT " + x.fault(0) + " at " + x.fault(1) + " in " + text);
        }
        return x;
    }
}
