import java.lang.reflect.InvocationTargetException;
import java.lang.reflect.Method;
import java.util.Arrays;
import java.util.Comparator;

/** What the tests share: scripts given as text, answers compared with those that are due, calls that are refused. */
final class Bench {
    interface Call {
        void make();
    }

    private static final int MOST_TOLD = 20;

    private static int checks = 0;
    private static int wrong = 0;

    private Bench() {
    }

    static void is(String what, long got, long due) {
        checks++;
        if (got != due) {
            tell(what + " answered " + got + ", due is " + due);
        }
    }

    static void is(String what, boolean got, boolean due) {
        is(what, got ? 1 : 0, due ? 1 : 0);
    }

    static void isShare(String what, double got, double due) {
        checks++;
        if (got != due) {
            tell(what + " answered " + got + ", due is " + due);
        }
    }

    static void refusesIndex(String what, Call call) {
        refuses(what, "IndexOutOfBoundsException", call);
    }

    static void refusesArgument(String what, Call call) {
        refuses(what, "IllegalArgumentException", call);
    }

    static void refusesState(String what, Call call) {
        refuses(what, "IllegalStateException", call);
    }

    /** Refused with this exception, and nothing is changed. */
    static void refusesIndex(String what, EmberScript x, Call call) {
        unchanged(what, x, () -> refuses(what, "IndexOutOfBoundsException", call));
    }

    static void refusesArgument(String what, EmberScript x, Call call) {
        unchanged(what, x, () -> refuses(what, "IllegalArgumentException", call));
    }

    static void refusesState(String what, EmberScript x, Call call) {
        unchanged(what, x, () -> refuses(what, "IllegalStateException", call));
    }

    static void unchanged(String what, EmberScript x, Call call) {
        long before = x.digest();
        int place = x.errorAt();
        call.make();
        is("digest behind " + what, x.digest(), before);
        is("errorAt behind " + what, x.errorAt(), place);
    }

    private static void refuses(String what, String due, Call call) {
        checks++;
        try {
            call.make();
            tell(what + " was not refused");
        } catch (RuntimeException e) {
            if (!e.getClass().getSimpleName().equals(due)) {
                tell(what + " threw " + e.getClass().getSimpleName() + ", due is " + due);
            }
        }
    }

    private static void tell(String text) {
        wrong++;
        if (wrong <= MOST_TOLD) {
            System.out.println(text);
        }
    }

    /** Puts a text on the tape, without anything behind it. */
    static void feed(EmberScript x, String text) {
        int from = x.trim(0);
        int[] bytes = new int[(text.length() + 19) / 20 * 20];
        for (int n = 0; n < bytes.length; n++) {
            bytes[n] = n < text.length() ? text.charAt(n) : ' ';
        }
        for (int n = from; n < bytes.length; n += 20) {
            x.feed(four(bytes, n), four(bytes, n + 4), four(bytes, n + 8), four(bytes, n + 12), four(bytes, n + 16));
        }
        x.trim(text.length());
    }

    private static int four(int[] bytes, int from) {
        return bytes[from] << 24 | bytes[from + 1] << 16 | bytes[from + 2] << 8 | bytes[from + 3];
    }

    static int load(EmberScript x, String text) {
        feed(x, text);
        return x.load();
    }

    /** A new object with a script that has no error. */
    static EmberScript with(String text) {
        EmberScript x = new EmberScript();
        is("load of " + text, load(x, text), 0);
        return x;
    }

    /** A new object with a script that has run to its end, or for 2000 steps. */
    static EmberScript done(String text) {
        EmberScript x = with(text);
        for (int n = 0; n < 100 && x.state() == 0 && x.steps() < 2000; n++) {
            x.run(200);
        }
        return x;
    }

    /** Compares the error of a text, and its position. */
    static void fails(String text, int error, int place) {
        EmberScript x = new EmberScript();
        is("load of " + text, load(x, text), error);
        is("errorAt of " + text, x.errorAt(), place);
    }

    /** Compares the error of a text, whose position is marked by a #, which is no part of it. */
    static void failsAt(String text, int error) {
        fails(text.replace("#", ""), error, text.indexOf('#'));
    }

    static void loads(String text) {
        fails(text, 0, -1);
    }

    /** Runs a script till it stands at a statement that begins at the mark #, which is no part of the text. */
    static EmberScript at(String text) {
        int mark = text.indexOf('#');
        EmberScript x = with(text.replace("#", ""));
        for (int n = 0; n < 300 && x.state() == 0 && x.place() != mark; n++) {
            x.run(1);
        }
        is("place of " + text, x.place(), mark);
        return x;
    }

    static String times(String text, int count) {
        StringBuilder all = new StringBuilder();
        for (int n = 0; n < count; n++) {
            all.append(text);
        }
        return all.toString();
    }

    /** Compares what a script prints, each value written by its kind (n, s, t ..) and number, with blanks between. */
    static void prints(String text, String due) {
        EmberScript x = done(text);
        StringBuilder got = new StringBuilder();
        for (int back = Math.min(x.printed(), 40) - 1; back >= 0; back--) {
            got.append(got.length() > 0 ? " " : "").append(value(x.kindPrinted(back), x.numberPrinted(back)));
        }
        if (x.state() == 2) {
            got.append(got.length() > 0 ? " " : "").append("throws ").append(value(x.kindThrown(), x.numberThrown()));
        }
        checks++;
        if (!got.toString().equals(due)) {
            tell(text + " printed " + got + ", due is " + due);
        }
    }

    private static String value(int kind, int number) {
        String[] words = {"type", "zero", "slot", "args", "deep", "full", "done", "busy"};
        switch (kind) {
            case 0: return number == 0 ? "nil" : "nil" + number;
            case 1: return number == 1 ? "true" : number == 0 ? "false" : "truth" + number;
            case 2: return "" + number;
            case 3: return "'" + (number < 8 ? words[number] : "" + number);
            case 4: return "object" + number;
            case 5: return "function" + number;
            case 6: return "generator" + number;
            default: return "weak" + number;
        }
    }

    /** Carries out each test of a class: its methods whose names begin with section, promise or rows. */
    static void runAll(Class<?> tests) {
        Method[] methods = tests.getDeclaredMethods();
        Arrays.sort(methods, Comparator.comparing(Method::getName));
        int count = 0;
        for (Method method : methods) {
            if (method.getName().matches("(section|promise)[0-9]+[A-Z].*|rows[A-Z].*")) {
                count++;
                int before = wrong;
                carryOut(method);
                if (wrong > before) {
                    System.out.println("wrong: " + tests.getName() + "." + method.getName());
                }
            }
        }
        end(tests.getName() + ", " + count + " tests");
    }

    private static void carryOut(Method method) {
        try {
            method.invoke(null);
        } catch (InvocationTargetException e) {
            tell(method.getName() + " threw " + e.getCause());
        } catch (IllegalAccessException e) {
            tell(method.getName() + " can't be called");
        }
    }

    static void end(String name) {
        System.out.println(name + ": " + checks + " checks, " + wrong + " wrong");
        if (wrong != 0 || checks == 0) {
            System.exit(1);
        }
    }
}
