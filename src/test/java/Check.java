import java.util.ArrayList;
import java.util.List;
import java.util.function.IntSupplier;

/** What the tests share: it counts the answers that are not as due. */
final class Check {
    static final int PLUS = 3;
    static final int MINUS = 4;
    static final int TIMES = 5;
    static final int LESS = 6;
    static final int EQUAL = 7;
    static final int IF = 8;
    static final int TRUE = 9;
    static final int FALSE = 10;

    /** None of them is a function, though some would be if bits were cut off. */
    static final int[] NO_FUNCTIONS = {-1, 8, -8, 15, 256, 65536, Integer.MIN_VALUE, Integer.MAX_VALUE};

    private static int wrong = 0;
    private static String sentence = "";

    private Check() {
    }

    /** The test of one sentence of the document; its words stand in front of every answer that is not as due. */
    static void sentence(String words, Runnable test) {
        sentence = "\"" + words + "\": ";
        try {
            test.run();
        } catch (RuntimeException e) {
            tell("the test met " + e);
        }
        sentence = "";
    }

    private static void tell(String words) {
        wrong++;
        System.out.println(sentence + words);
    }

    static int call(int function) {
        return 11 + function;
    }

    static int number(int n) {
        return 100 + n;
    }

    static void due(String what, long got, long want) {
        if (got != want) {
            tell(what + " answered " + got + ", due is " + want);
        }
    }

    static void due(String what, boolean got, boolean want) {
        due(what, got ? 1 : 0, want ? 1 : 0);
    }

    static void dueThrow(String what, Class<? extends RuntimeException> want, Runnable call) {
        Class<?> got = null;
        try {
            call.run();
        } catch (RuntimeException e) {
            got = e.getClass();
        }
        if (got != want) {
            tell(what + " threw " + got + ", due is " + want);
        }
    }

    static void dueThrow(String what, Class<? extends RuntimeException> want, IntSupplier call) {
        Runnable dropsTheAnswer = () -> call.getAsInt();
        dueThrow(what, want, dropsTheAnswer);
    }

    /** Puts a text in place of what the function had. */
    static void text(UnitDesk desk, int function, int... tokens) {
        desk.wipe(function);
        for (int token : tokens) {
            due("token(" + function + ", " + token + ")", desk.token(function, token), true);
        }
    }

    static void image(String what, UnitDesk desk, int... words) {
        due(what + ": size()", desk.size(), words.length);
        for (int i = 0; i < words.length && i < desk.size(); i++) {
            due(what + ": word(" + i + ")", desk.word(i), words[i]);
        }
    }

    static void look(String what, UnitDesk desk, int function, int... answers) {
        for (int i = 0; i < answers.length; i++) {
            due(what + ": look(" + function + ", " + i + ")", desk.look(function, i), answers[i]);
        }
    }

    static void counts(String what, UnitDesk desk, int... answers) {
        for (int i = 0; i < answers.length; i++) {
            due(what + ": count(" + i + ")", desk.count(i), answers[i]);
        }
    }

    /** A run with the three things that it tells: its answer, the value and the fuel that it used. */
    static void outcome(String what, UnitDesk desk, int answer, int wantAnswer, int wantValue, int wantUsed) {
        due(what + ": run", answer, wantAnswer);
        due(what + ": value()", desk.value(), wantValue);
        due(what + ": used()", desk.used(), wantUsed);
    }

    /** All that an object tells of itself without being changed. */
    private static List<Integer> state(UnitDesk desk) {
        List<Integer> state = new ArrayList<>();
        for (int what = 0; what < 5; what++) {
            state.add(desk.count(what));
            for (int f = 0; f < 8; f++) {
                state.add(desk.look(f, what));
            }
        }
        state.add(desk.value());
        state.add(desk.used());
        for (int i = 0; i < desk.size(); i++) {
            state.add(desk.word(i));
        }
        return state;
    }

    /** For a desk that is built as it stands: texts and signatures are as they were if all units fit still. */
    static void changesNothing(UnitDesk desk, Runnable calls) {
        List<Integer> before = state(desk);
        int functions = desk.count(0) + desk.count(1);
        int words = desk.size();
        calls.run();
        due("the state is as it was", state(desk).equals(before), true);
        due("build()", desk.build(), words);
        counts("all texts and signatures are as they were", desk, functions, 0, 0);
    }

    static void end() {
        System.out.println(wrong == 0 ? "all answers are as due" : wrong + " answers are not as due");
        if (wrong != 0) {
            System.exit(1);
        }
    }
}
