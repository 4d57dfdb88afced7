import java.util.Arrays;

/** Objects that several tests begin with. */
final class Desks {
    /** The function that the texts of {@link #fault} are given to. */
    static final int UNDER_TEST = 3;

    private Desks() {
    }

    /** Function 0 alone, not built. */
    static UnitDesk one(int parameters, int types, boolean bool, int... tokens) {
        UnitDesk desk = new UnitDesk();
        add(desk, 0, parameters, types, bool, tokens);
        return desk;
    }

    /** Function 0 alone, built. */
    static UnitDesk built(int parameters, int types, boolean bool, int... tokens) {
        UnitDesk desk = one(parameters, types, bool, tokens);
        Check.due("build() > 0", desk.build() > 0, true);
        return desk;
    }

    static void add(UnitDesk desk, int function, int parameters, int types, boolean bool, int... tokens) {
        desk.sign(function, parameters, types, bool);
        Check.text(desk, function, tokens);
    }

    /** Functions 0, 3 and 7, built and run; none of the others is there. */
    static UnitDesk busy() {
        UnitDesk desk = new UnitDesk();
        add(desk, 0, 1, 0, false, Check.PLUS, 0, 101);
        add(desk, 3, 0, 0, true, Check.TRUE);
        add(desk, 7, 3, 2, false, Check.IF, 1, 0, Check.call(0), 2);
        Check.due("build()", desk.build(), 7 + 4 + 14);
        Check.outcome("function 7", desk, desk.run(7, 5, 0, 6, 9), 0, 7, 9);
        return desk;
    }

    /**
     * The first fault of a text, or 0 and -1. Function 0: (INT, BOOL, INT) INT; 1: () BOOL; 2: (BOOL) BOOL; the one
     * under test: (INT, BOOL) and the result asked for; no others.
     */
    static void fault(int kind, int place, boolean bool, int... tokens) {
        UnitDesk desk = new UnitDesk();
        add(desk, 0, 3, 2, false, 0);
        add(desk, 1, 0, 0, true, Check.TRUE);
        add(desk, 2, 1, 1, true, 0);
        add(desk, UNDER_TEST, 2, 2, bool, tokens);
        String what = Arrays.toString(tokens);
        Check.due(what + ": it is right", desk.build() > 0, kind == 0);
        Check.look(what, desk, UNDER_TEST, kind, place, 2);
        Check.counts(what, desk, 0, 4, kind == 0 ? 0 : 1);
    }

    /** A text of an INT result is right. */
    static void intRight(int... tokens) {
        fault(0, -1, false, tokens);
    }

    /** A text of a BOOL result is right. */
    static void boolRight(int... tokens) {
        fault(0, -1, true, tokens);
    }

    /** A row of tokens: a number of times the same one, and what stands behind. */
    static int[] times(int count, int token, int... behind) {
        int[] tokens = new int[count + behind.length];
        Arrays.fill(tokens, 0, count, token);
        System.arraycopy(behind, 0, tokens, count, behind.length);
        return tokens;
    }
}
