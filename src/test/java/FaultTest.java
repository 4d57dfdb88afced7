/** Promise 7, RIGHT, TYPES and FAULT: the kind and the place of the first fault of a text. */
public final class FaultTest {
    private static final int NONE = 0;
    private static final int UNDER_TEST = 3;

    public static void main(String[] args) {
        noToken();
        textOver();
        noParameter();
        noFunction();
        typesOfSigns();
        typesOfIf();
        typesOfCall();
        typeOfWhole();
        behind();
        firstCounts();
        longest();
        Check.end();
    }

    /** Function 0: (INT, BOOL, INT) INT; 1: () BOOL; 2: (BOOL) BOOL; 3, of (INT, BOOL) and the result asked for. */
    private static void fault(int kind, int place, boolean bool, int... tokens) {
        UnitDesk desk = new UnitDesk();
        desk.sign(0, 3, 2, false);
        Check.text(desk, 0, 0);
        desk.sign(1, 0, 0, true);
        Check.text(desk, 1, Check.TRUE);
        desk.sign(2, 1, 1, true);
        Check.text(desk, 2, 0);
        desk.sign(UNDER_TEST, 2, 2, bool);
        Check.text(desk, UNDER_TEST, tokens);
        String what = java.util.Arrays.toString(tokens);
        Check.due(what + ": it is right", desk.build() > 0, kind == NONE);
        Check.look(what, desk, UNDER_TEST, kind, place, 2);
        Check.counts(what, desk, 0, 4, kind == NONE ? 0 : 1);
    }

    private static void intRight(int... tokens) {
        fault(NONE, -1, false, tokens);
    }

    private static void boolRight(int... tokens) {
        fault(NONE, -1, true, tokens);
    }

    private static void noToken() {
        for (int token : new int[] {-1, Integer.MIN_VALUE, 19, 20, 50, 99, -100}) {
            fault(1, 0, false, token);
            fault(1, 1, false, Check.PLUS, token, 100);
            fault(1, 2, false, Check.PLUS, 100, token);
        }
        intRight(100);
        intRight(Integer.MAX_VALUE);
    }

    private static void textOver() {
        fault(2, 0, false);
        fault(2, 0, true);
        fault(2, 1, false, Check.PLUS);
        fault(2, 2, false, Check.PLUS, 0);
        fault(2, 1, false, Check.IF);
        fault(2, 2, false, Check.IF, Check.TRUE);
        fault(2, 3, false, Check.IF, Check.TRUE, 100);
        fault(2, 1, false, Check.call(0));
        fault(2, 3, false, Check.call(0), 0, 1);
    }

    private static void noParameter() {
        intRight(0);
        boolRight(1);
        fault(3, 0, false, 2);
        fault(3, 0, true, 2);
        fault(3, 2, false, Check.PLUS, 0, 2);
    }

    private static void noFunction() {
        for (int f = 4; f < 8; f++) {
            fault(4, 0, false, Check.call(f));
            fault(4, 1, false, Check.PLUS, Check.call(f), 0);
        }
        boolRight(Check.call(1));
        intRight(Check.call(UNDER_TEST), 0, 1);
        boolRight(Check.call(UNDER_TEST), 0, 1);
    }

    private static void typesOfSigns() {
        for (int sign : new int[] {Check.PLUS, Check.MINUS, Check.TIMES}) {
            intRight(sign, 0, 100);
            fault(5, 0, true, sign, 0, 100);
            fault(5, 1, false, sign, 1, 100);
            fault(5, 2, false, sign, 0, 1);
            fault(5, 1, false, sign, Check.TRUE, Check.TRUE);
        }
        for (int sign : new int[] {Check.LESS, Check.EQUAL}) {
            boolRight(sign, 0, 100);
            fault(5, 0, false, sign, 0, 100);
            fault(5, 1, true, sign, Check.FALSE, 100);
            fault(5, 2, true, sign, 0, Check.FALSE);
            fault(5, 1, true, sign, Check.TRUE, Check.TRUE);
        }
        fault(5, 4, false, Check.PLUS, Check.PLUS, 0, 0, Check.LESS, 0, 0);
    }

    private static void typesOfIf() {
        intRight(Check.IF, 1, 0, 0);
        boolRight(Check.IF, 1, 1, Check.TRUE);
        fault(5, 1, false, Check.IF, 0, 0, 0);
        fault(5, 1, false, Check.IF, Check.PLUS, 0, 0, 0, 0);
        fault(5, 3, false, Check.IF, 1, 0, 1);
        fault(5, 3, true, Check.IF, 1, 1, 0);
        fault(5, 3, true, Check.IF, 1, 0, 1);
        fault(5, 3, false, Check.IF, 1, 1, 0);
        fault(5, 0, false, Check.IF, 1, 1, 1);
        fault(5, 0, true, Check.IF, 1, 0, 0);
        fault(5, 1, false, Check.PLUS, Check.IF, 1, 1, 1, 0);
    }

    private static void typesOfCall() {
        intRight(Check.call(0), 0, 1, 0);
        boolRight(Check.call(2), Check.call(2), Check.call(1));
        fault(5, 1, false, Check.call(0), 1, 1, 0);
        fault(5, 2, false, Check.call(0), 0, 0, 0);
        fault(5, 3, false, Check.call(0), 0, 1, 1);
        fault(5, 0, true, Check.call(0), 0, 1, 0);
        fault(5, 0, false, Check.call(1));
        fault(5, 1, true, Check.call(2), Check.call(0), 0, 1, 0);
        fault(5, 1, false, Check.PLUS, Check.call(1), 0);
        fault(5, 2, false, Check.call(UNDER_TEST), 0, 0);
    }

    private static void typeOfWhole() {
        fault(5, 0, true, 0);
        fault(5, 0, false, 1);
        fault(5, 0, false, Check.TRUE);
        fault(5, 0, false, Check.FALSE);
        fault(5, 0, true, 101);
    }

    private static void behind() {
        fault(6, 1, false, 0, 0);
        fault(6, 1, true, Check.TRUE, Check.TRUE);
        fault(6, 3, false, Check.PLUS, 0, 0, Check.PLUS);
        fault(6, 1, false, 0, 2);
        fault(6, 1, false, 0, 19);
        fault(6, 1, false, 0, Check.call(7));
        fault(5, 0, true, 0, 0);
        fault(5, 0, false, Check.TRUE, 19);
    }

    private static void firstCounts() {
        fault(1, 1, false, Check.PLUS, 19, 2);
        fault(3, 1, false, Check.PLUS, 2, 19);
        fault(4, 1, false, Check.PLUS, Check.call(7), Check.TRUE);
        fault(5, 1, false, Check.PLUS, Check.TRUE, 19);
        fault(5, 1, false, Check.PLUS, Check.TRUE);
        // The inner one is read whole before its type is looked at, so what is wrong inside it comes first.
        fault(1, 3, false, Check.PLUS, Check.LESS, 0, 19, 0);
        fault(2, 3, false, Check.PLUS, Check.LESS, 0);
        fault(5, 2, false, Check.PLUS, Check.LESS, Check.TRUE, 0, 0);
        fault(5, 1, false, Check.PLUS, Check.LESS, 0, 0, 2);
        fault(3, 3, false, Check.IF, 1, 0, 2);
        fault(5, 1, true, Check.IF, 0, 19, 19);
    }

    private static void longest() {
        int[] right = new int[29];
        int[] over = new int[30];
        int[] calls = new int[30];
        for (int i = 0; i < 30; i++) {
            over[i] = Check.PLUS;
            calls[i] = Check.call(2);
        }
        for (int i = 0; i < 29; i++) {
            right[i] = i < 14 ? Check.PLUS : 0;
        }
        intRight(right);
        fault(2, 30, false, over);
        fault(2, 30, true, calls);
        calls[29] = 1;
        boolRight(calls);
        over[29] = 1;
        fault(5, 29, false, over);
    }
}
