import java.lang.reflect.Method;
import java.util.Arrays;
import java.util.Comparator;

/** What the tests of answers share: the count of wrong ones, the typing of texts, the running of test methods. */
class Dues {
    static final int UNKNOWN = -1;
    static final int BAD_VALUE = -2;
    static final int FULL = -3;
    static final int NOT_POSSIBLE = -4;
    static final int NONE = -5;
    static final int LEAST = Integer.MIN_VALUE;
    static final int MOST = Integer.MAX_VALUE;

    private static int wrong = 0;
    private static String promise = "";

    static void due(String call, int got, int want) {
        if (got != want) {
            fault(call + " answered " + got + ", due is " + want);
        }
    }

    static void fault(String what) {
        wrong++;
        System.out.println(promise + ": " + what);
    }

    static StatuteClauses book() {
        return new StatuteClauses();
    }

    static void typeAll(StatuteClauses x, String text) {
        x.clearText();
        for (int i = 0; i < text.length(); i++) {
            due("type of sign " + i + " of " + text, x.type(text.charAt(i)), i + 1);
        }
    }

    static int written(StatuteClauses x, String text) {
        typeAll(x, text);
        return x.writeAll();
    }

    /** What a text answers on a new book. */
    static void textDue(String text, int want) {
        due("writeAll() of \"" + text + "\"", written(book(), text), want);
    }

    static void history(StatuteClauses x, int states) {
        due("count(7)", x.count(7), states);
    }

    static void run(String name, Runnable test) {
        promise = name;
        test.run();
    }

    private static int promiseOf(Method test) {
        String digits = test.getName().replaceAll("^promise(\\d+).*$", "$1");
        return digits.equals(test.getName()) ? 0 : Integer.parseInt(digits);
    }

    /** Runs every method whose name begins with "promise" and a number; each of the promises must have one. */
    static void runPromises(Class<?> tests, int first, int last) {
        Method[] methods = tests.getDeclaredMethods();
        Arrays.sort(methods, Comparator.comparingInt(Dues::promiseOf).thenComparing(Method::getName));
        for (int number = first; number <= last; number++) {
            int wanted = number;
            if (Arrays.stream(methods).noneMatch(m -> promiseOf(m) == wanted)) {
                fault("promise " + number + " has no test");
            }
        }
        for (Method method : methods) {
            if (promiseOf(method) > 0) {
                run(method.getName(), () -> call(method));
            }
        }
    }

    private static void call(Method method) {
        try {
            method.invoke(null);
        } catch (ReflectiveOperationException thrown) {
            fault("it threw " + thrown.getCause());
        }
    }

    static void finish() {
        System.out.println(wrong == 0 ? "all answers are as due" : wrong + " answers are not as due");
        if (wrong != 0) {
            System.exit(1);
        }
    }
}
