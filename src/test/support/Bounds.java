import java.lang.reflect.InvocationTargetException;
import java.lang.reflect.Method;
import java.util.ArrayList;
import java.util.Arrays;
import java.util.Comparator;
import java.util.List;

/** What the tests of boundary cases share: a class of them has one method for each sentence, named after its promise. */
abstract class Bounds {
    static final int UNKNOWN = -1, OUTSIDE = -2, STATE = -3, FULL = -4, NONE = -9;
    static final int NULL = -11, CAST = -12, INDEX = -13, SIZE = -14;
    static final long LOST = Long.MIN_VALUE;
    static final int LEAST = Integer.MIN_VALUE, GREATEST = Integer.MAX_VALUE;
    /** Numbers that are no place of a row of 16 or less; 32 and 64 stand where a shift comes round. */
    static final int[] FAR = {LEAST, LEAST + 1, -64, -32, -31, 16, 31, 32, 33, 64, 256, 65536, GREATEST - 1, GREATEST};

    private static final int CALLS_PROMISED = 512;
    private static final int[] GREATEST_MEASURE = {100, 60, 60, 60, 60};

    private static String test = "";
    private static int wrong = 0;

    /** Makes something of a new object. */
    interface Making {
        void on(NeckShip x);
    }

    interface Call {
        long on(NeckShip x);
    }

    static void due(String what, long got, long want) {
        if (got != want) {
            wrong++;
            System.out.println(test + ": " + what + " answered " + got + ", due is " + want);
        }
    }

    static NeckShip made(Making making) {
        NeckShip x = new NeckShip();
        making.on(x);
        return x;
    }

    /** A call that names no FAULTS is refused: nothing changes, the latest FAULT neither. */
    static void refused(String what, Making making, Call call, long want) {
        changesNothing(what, making, call, want, 4, 4);
    }

    /** A call that names FAULTS is refused: nothing changes, but fault() is 0. */
    static void refusedNamingFaults(String what, Making making, Call call, long want) {
        changesNothing(what, making, call, want, 4, 0);
    }

    /** A call comes to the FAULT of an answer: nothing changes, but fault() tells it. */
    static void faulted(String what, Making making, Call call, int answer) {
        changesNothing(what, making, call, answer, answer == SIZE ? 0 : 4, -10 - answer);
    }

    /** As faulted(), of a call that answers a long. */
    static void lost(String what, Making making, Call call, int faultThen) {
        changesNothing(what, making, call, LOST, 4, faultThen);
    }

    /** Two objects are made alike and one of them is called: afterwards both answer alike to all that can be asked. */
    private static void changesNothing(String what, Making making, Call call, long want, int before, int faultThen) {
        NeckShip called = made(making);
        NeckShip twin = made(making);
        leaveFault(called, before);
        leaveFault(twin, before);
        due(what, call.on(called), want);
        due(what + ", fault() then", called.fault(), faultThen);
        List<String> got = answersOf(called);
        List<String> wanted = answersOf(twin);
        for (int n = 0; n < Math.max(got.size(), wanted.size()); n++) {
            String g = n < got.size() ? got.get(n) : "nothing";
            String w = n < wanted.size() ? wanted.get(n) : "nothing";
            if (!g.equals(w)) {
                wrong++;
                System.out.println(test + ": " + what + " changed something: " + g + ", due is " + w);
                return;
            }
        }
    }

    private static void leaveFault(NeckShip x, int fault) {
        due("a FAULT that is left", x.sheet(fault == 0 ? 9 : 0, 0, -1), fault == 0 ? UNKNOWN : SIZE);
    }

    /** The answers to all that can be asked; the object is of no use afterwards. */
    private static List<String> answersOf(NeckShip x) {
        List<String> answers = new ArrayList<>();
        answers.add("trace() = " + x.trace());
        for (int what = 0; what < 6; what++) {
            answers.add("told(" + what + ") = " + x.told(what));
        }
        for (int s = 0; s <= x.told(0); s++) {
            for (int what = 0; what < 10; what++) {
                answers.add("about(" + s + ", " + what + ") = " + x.about(s, what));
            }
        }
        for (int t = 0; t <= x.told(1); t++) {
            for (int what = 0; what < 6; what++) {
                answers.add("threaded(" + t + ", " + what + ") = " + x.threaded(t, what));
            }
        }
        for (int what = 0; what < 3; what++) {
            answers.add("fits(" + what + ") = " + x.fits(what));
            answers.add("rising(" + what + ") = " + x.rising(what));
        }
        answers.add("rig() = " + x.rig());
        answers.add("order(0) = " + x.order(0));
        addCells(answers, x);
        for (int what = 0; what < 5; what++) {
            answers.add("rule(" + what + ", ..) = " + x.rule(what, GREATEST_MEASURE[what]));
        }
        if (answers.size() > CALLS_PROMISED - 100) {
            throw new IllegalStateException(test + " asks more than an object promises to answer");
        }
        return answers;
    }

    private static void addCells(List<String> answers, NeckShip x) {
        for (int k = 0; k < 4; k++) {
            for (int lane = 0; lane < 3; lane++) {
                long cell = 0;
                for (int i = 0; cell != LOST; i++) {
                    cell = x.cell(k, i, lane);
                    answers.add("cell(" + k + ", " + i + ", " + lane + ") = " + cell);
                }
            }
            answers.add("lose(" + k + ") = " + x.lose(k));
        }
    }

    /** A SHEET with a row of ints, or of what they are cut to. */
    static void write(NeckShip x, int k, int lane, int... row) {
        due("sheet", x.sheet(k, lane, row.length), 1);
        for (int i = 0; i < row.length; i++) {
            due("put", x.put(k, i, row[i]), 1);
        }
    }

    static void dueRow(String what, NeckShip x, int k, int lane, long... want) {
        for (int i = 0; i < want.length; i++) {
            due(what + ", cell " + i + " of " + k, x.cell(k, i, lane), want[i]);
        }
        due(what + ", beyond the end of " + k, x.cell(k, want.length, lane), LOST);
    }

    /** n SPARS that cover nothing together, each raised by a THREAD of its number. */
    static void apart(NeckShip x, int n) {
        for (int s = 0; s < n; s++) {
            due("spar", x.spar(0, 5 * s, 5, 1, 1), s);
            due("thread", x.thread(5 * s - 1, s, 1), s);
        }
    }

    /** Runs every method of a class whose name begins with promise; ends with code 1 if an answer was wrong. */
    static void runAll(Class<?> tests) {
        Method[] methods = tests.getDeclaredMethods();
        Arrays.sort(methods, Comparator.comparing(Method::getName));
        int ran = 0;
        for (Method method : methods) {
            if (method.getName().startsWith("promise")) {
                run(method);
                ran++;
            }
        }
        System.out.println(wrong == 0 && ran > 0 ? ran + " sentences hold" : wrong + " answers are wrong");
        if (wrong != 0 || ran == 0) {
            System.exit(1);
        }
    }

    private static void run(Method method) {
        test = method.getName();
        try {
            method.setAccessible(true);
            method.invoke(null);
        } catch (InvocationTargetException | IllegalAccessException e) {
            wrong++;
            System.out.println(test + " ended by " + (e.getCause() == null ? e : e.getCause()));
        }
    }
}
