/** Promise 7, RIGHT, TYPES and FAULT: the kind and the place of the first fault of a text. */
public final class FaultTest {
    public static void main(String[] args) {
        noToken();
        textOver();
        noParameter();
        noFunction();
        typesOfSigns();
        typesOfIf();
        typesOfCall();
        typeOfWhole();
        behind();
        firstCounts();
        longest();
        Check.end();
    }

    private static void noToken() {
        for (int token : new int[] {-1, Integer.MIN_VALUE, 19, 20, 50, 99, -100}) {
            Desks.fault(1, 0, false, token);
            Desks.fault(1, 1, false, Check.PLUS, token, 100);
            Desks.fault(1, 2, false, Check.PLUS, 100, token);
        }
        Desks.intRight(100);
        Desks.intRight(Integer.MAX_VALUE);
    }

    private static void textOver() {
        Desks.fault(2, 0, false);
        Desks.fault(2, 0, true);
        Desks.fault(2, 1, false, Check.PLUS);
        Desks.fault(2, 2, false, Check.PLUS, 0);
        Desks.fault(2, 1, false, Check.IF);
        Desks.fault(2, 2, false, Check.IF, Check.TRUE);
        Desks.fault(2, 3, false, Check.IF, Check.TRUE, 100);
        Desks.fault(2, 1, false, Check.call(0));
        Desks.fault(2, 3, false, Check.call(0), 0, 1);
    }

    private static void noParameter() {
        Desks.intRight(0);
        Desks.boolRight(1);
        Desks.fault(3, 0, false, 2);
        Desks.fault(3, 0, true, 2);
        Desks.fault(3, 2, false, Check.PLUS, 0, 2);
    }

    private static void noFunction() {
        for (int f = 4; f < 8; f++) {
            Desks.fault(4, 0, false, Check.call(f));
            Desks.fault(4, 1, false, Check.PLUS, Check.call(f), 0);
        }
        Desks.boolRight(Check.call(1));
        Desks.intRight(Check.call(Desks.UNDER_TEST), 0, 1);
        Desks.boolRight(Check.call(Desks.UNDER_TEST), 0, 1);
    }

    private static void typesOfSigns() {
        for (int sign : new int[] {Check.PLUS, Check.MINUS, Check.TIMES}) {
            Desks.intRight(sign, 0, 100);
            Desks.fault(5, 0, true, sign, 0, 100);
            Desks.fault(5, 1, false, sign, 1, 100);
            Desks.fault(5, 2, false, sign, 0, 1);
            Desks.fault(5, 1, false, sign, Check.TRUE, Check.TRUE);
        }
        for (int sign : new int[] {Check.LESS, Check.EQUAL}) {
            Desks.boolRight(sign, 0, 100);
            Desks.fault(5, 0, false, sign, 0, 100);
            Desks.fault(5, 1, true, sign, Check.FALSE, 100);
            Desks.fault(5, 2, true, sign, 0, Check.FALSE);
            Desks.fault(5, 1, true, sign, Check.TRUE, Check.TRUE);
        }
        Desks.fault(5, 4, false, Check.PLUS, Check.PLUS, 0, 0, Check.LESS, 0, 0);
    }

    private static void typesOfIf() {
        Desks.intRight(Check.IF, 1, 0, 0);
        Desks.boolRight(Check.IF, 1, 1, Check.TRUE);
        Desks.fault(5, 1, false, Check.IF, 0, 0, 0);
        Desks.fault(5, 1, false, Check.IF, Check.PLUS, 0, 0, 0, 0);
        Desks.fault(5, 3, false, Check.IF, 1, 0, 1);
        Desks.fault(5, 3, true, Check.IF, 1, 1, 0);
        Desks.fault(5, 3, true, Check.IF, 1, 0, 1);
        Desks.fault(5, 3, false, Check.IF, 1, 1, 0);
        Desks.fault(5, 0, false, Check.IF, 1, 1, 1);
        Desks.fault(5, 0, true, Check.IF, 1, 0, 0);
        Desks.fault(5, 1, false, Check.PLUS, Check.IF, 1, 1, 1, 0);
    }

    private static void typesOfCall() {
        Desks.intRight(Check.call(0), 0, 1, 0);
        Desks.boolRight(Check.call(2), Check.call(2), Check.call(1));
        Desks.fault(5, 1, false, Check.call(0), 1, 1, 0);
        Desks.fault(5, 2, false, Check.call(0), 0, 0, 0);
        Desks.fault(5, 3, false, Check.call(0), 0, 1, 1);
        Desks.fault(5, 0, true, Check.call(0), 0, 1, 0);
        Desks.fault(5, 0, false, Check.call(1));
        Desks.fault(5, 1, true, Check.call(2), Check.call(0), 0, 1, 0);
        Desks.fault(5, 1, false, Check.PLUS, Check.call(1), 0);
        Desks.fault(5, 2, false, Check.call(Desks.UNDER_TEST), 0, 0);
    }

    private static void typeOfWhole() {
        Desks.fault(5, 0, true, 0);
        Desks.fault(5, 0, false, 1);
        Desks.fault(5, 0, false, Check.TRUE);
        Desks.fault(5, 0, false, Check.FALSE);
        Desks.fault(5, 0, true, 101);
    }

    private static void behind() {
        Desks.fault(6, 1, false, 0, 0);
        Desks.fault(6, 1, true, Check.TRUE, Check.TRUE);
        Desks.fault(6, 3, false, Check.PLUS, 0, 0, Check.PLUS);
        Desks.fault(6, 1, false, 0, 2);
        Desks.fault(6, 1, false, 0, 19);
        Desks.fault(6, 1, false, 0, Check.call(7));
        Desks.fault(5, 0, true, 0, 0);
        Desks.fault(5, 0, false, Check.TRUE, 19);
    }

    private static void firstCounts() {
        Desks.fault(1, 1, false, Check.PLUS, 19, 2);
        Desks.fault(3, 1, false, Check.PLUS, 2, 19);
        Desks.fault(4, 1, false, Check.PLUS, Check.call(7), Check.TRUE);
        Desks.fault(5, 1, false, Check.PLUS, Check.TRUE, 19);
        Desks.fault(5, 1, false, Check.PLUS, Check.TRUE);
        // The inner one is read whole before its type is looked at, so what is wrong inside it comes first.
        Desks.fault(1, 3, false, Check.PLUS, Check.LESS, 0, 19, 0);
        Desks.fault(2, 3, false, Check.PLUS, Check.LESS, 0);
        Desks.fault(5, 2, false, Check.PLUS, Check.LESS, Check.TRUE, 0, 0);
        Desks.fault(5, 1, false, Check.PLUS, Check.LESS, 0, 0, 2);
        Desks.fault(3, 3, false, Check.IF, 1, 0, 2);
        Desks.fault(5, 1, true, Check.IF, 0, 19, 19);
    }

    private static void longest() {
        int[] right = new int[29];
        int[] over = new int[30];
        int[] calls = new int[30];
        for (int i = 0; i < 30; i++) {
            over[i] = Check.PLUS;
            calls[i] = Check.call(2);
        }
        for (int i = 0; i < 29; i++) {
            right[i] = i < 14 ? Check.PLUS : 0;
        }
        Desks.intRight(right);
        Desks.fault(2, 30, false, over);
        Desks.fault(2, 30, true, calls);
        calls[29] = 1;
        Desks.boolRight(calls);
        over[29] = 1;
        Desks.fault(5, 29, false, over);
    }
}
