import java.util.function.IntSupplier;

/** What the tests share: it counts the answers that are not as due. */
final class Check {
    static final int PLUS = 3;
    static final int MINUS = 4;
    static final int TIMES = 5;
    static final int LESS = 6;
    static final int EQUAL = 7;
    static final int IF = 8;
    static final int TRUE = 9;
    static final int FALSE = 10;

    private static int wrong = 0;

    private Check() {
    }

    static int call(int function) {
        return 11 + function;
    }

    static int number(int n) {
        return 100 + n;
    }

    static void due(String what, long got, long want) {
        if (got != want) {
            wrong++;
            System.out.println(what + " answered " + got + ", due is " + want);
        }
    }

    static void due(String what, boolean got, boolean want) {
        due(what, got ? 1 : 0, want ? 1 : 0);
    }

    static void dueThrow(String what, Class<? extends RuntimeException> want, Runnable call) {
        Class<?> got = null;
        try {
            call.run();
        } catch (RuntimeException e) {
            got = e.getClass();
        }
        if (got != want) {
            wrong++;
            System.out.println(what + " threw " + got + ", due is " + want);
        }
    }

    static void dueThrow(String what, Class<? extends RuntimeException> want, IntSupplier call) {
        Runnable dropsTheAnswer = () -> call.getAsInt();
        dueThrow(what, want, dropsTheAnswer);
    }

    /** Puts a text in place of what the function had. */
    static void text(UnitDesk desk, int function, int... tokens) {
        desk.wipe(function);
        for (int token : tokens) {
            due("token(" + function + ", " + token + ")", desk.token(function, token), true);
        }
    }

    static void image(String what, UnitDesk desk, int... words) {
        due(what + ": size()", desk.size(), words.length);
        for (int i = 0; i < words.length && i < desk.size(); i++) {
            due(what + ": word(" + i + ")", desk.word(i), words[i]);
        }
    }

    static void look(String what, UnitDesk desk, int function, int... answers) {
        for (int i = 0; i < answers.length; i++) {
            due(what + ": look(" + function + ", " + i + ")", desk.look(function, i), answers[i]);
        }
    }

    static void counts(String what, UnitDesk desk, int... answers) {
        for (int i = 0; i < answers.length; i++) {
            due(what + ": count(" + i + ")", desk.count(i), answers[i]);
        }
    }

    /** A run with the three things that it tells: its answer, the value and the fuel that it used. */
    static void outcome(String what, UnitDesk desk, int answer, int wantAnswer, int wantValue, int wantUsed) {
        due(what + ": run", answer, wantAnswer);
        due(what + ": value()", desk.value(), wantValue);
        due(what + ": used()", desk.used(), wantUsed);
    }

    static void end() {
        System.out.println(wrong == 0 ? "all answers are as due" : wrong + " answers are not as due");
        if (wrong != 0) {
            System.exit(1);
        }
    }
}
