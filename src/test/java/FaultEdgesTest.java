/** RIGHT, TYPES and FAULT, which promise 7 leans on: the edges, one test for each sentence that names one. */
public final class FaultEdgesTest {
    private static final int[] INT_SIGNS = {Check.PLUS, Check.MINUS, Check.TIMES};
    private static final int[] BOOL_SIGNS = {Check.LESS, Check.EQUAL};

    public static void main(String[] args) {
        Check.sentence("A text is RIGHT if it is one EXPRESSION and no more", FaultEdgesTest::oneExpression);
        Check.sentence("a parameter that is there", FaultEdgesTest::parameterThere);
        Check.sentence("a sign and two expressions", FaultEdgesTest::signAndTwo);
        Check.sentence("IF and three", FaultEdgesTest::ifAndThree);
        Check.sentence("a CALL of a function that is there (it may be itself)", FaultEdgesTest::callThere);
        Check.sentence("and as many as that has parameters", FaultEdgesTest::asManyAsParameters);

        Check.sentence("a parameter has its own, a number INT, TRUE and FALSE BOOL", FaultEdgesTest::leafTypes);
        Check.sentence("+ - * take INT and INT and give INT", FaultEdgesTest::intSigns);
        Check.sentence("< = take them and give BOOL", FaultEdgesTest::boolSigns);
        Check.sentence("IF takes BOOL and two of one type and gives that", FaultEdgesTest::ifTypes);
        Check.sentence("a CALL takes the types of the parameters and gives the result", FaultEdgesTest::callTypes);
        Check.sentence("The whole has the function's result as type (looked at before 6).", FaultEdgesTest::whole);

        Check.sentence("the first FAULT counts", FaultEdgesTest::firstCounts);
        Check.sentence("1 a token that is none", FaultEdgesTest::noToken);
        Check.sentence("2 the text is over where an expression is wanted (the place behind it)",
                FaultEdgesTest::textOver);
        Check.sentence("3 a parameter that is not there", FaultEdgesTest::noParameter);
        Check.sentence("4 a CALL of a function that is not there", FaultEdgesTest::noFunction);
        Check.sentence("5 an expression whose type is not the one that is wanted (at its first token, when all of it "
                + "was read)", FaultEdgesTest::typeAtFirstToken);
        Check.sentence("as part of a sign or CALL, the first of IF, the third of IF by the second, the whole by the "
                + "result", FaultEdgesTest::typeByWhat);
        Check.sentence("6 something behind the expression (at it)", FaultEdgesTest::behind);
        Check.end();
    }

    private static void oneExpression() {
        Desks.fault(2, 0, false);
        Desks.intRight(100);
        Desks.fault(6, 1, false, 100, 100);
        Desks.fault(6, 1, false, Desks.times(30, 100));
        Desks.intRight(Desks.times(14, Check.PLUS, Desks.times(15, 100)));
        Desks.fault(6, 29, false, Desks.times(14, Check.PLUS, Desks.times(16, 100)));
        Desks.boolRight(Desks.times(29, Check.call(2), 1));
    }

    private static void parameterThere() {
        for (int parameters = 0; parameters <= 3; parameters++) {
            for (int k = 0; k < 3; k++) {
                UnitDesk desk = Desks.one(parameters, 0, false, Check.PLUS, 100, k);
                boolean there = k < parameters;
                Check.due("parameter " + k + " of " + parameters, desk.build(), there ? 7 : -1);
                Check.look("parameter " + k + " of " + parameters, desk, 0, there ? 0 : 3, there ? -1 : 2);
            }
        }
    }

    private static void signAndTwo() {
        for (int sign = Check.PLUS; sign <= Check.EQUAL; sign++) {
            boolean bool = sign >= Check.LESS;
            Desks.fault(2, 1, bool, sign);
            Desks.fault(2, 2, bool, sign, 0);
            Desks.fault(0, -1, bool, sign, 0, 0);
            Desks.fault(6, 3, bool, sign, 0, 0, 0);
        }
    }

    private static void ifAndThree() {
        Desks.fault(2, 1, false, Check.IF);
        Desks.fault(2, 2, false, Check.IF, 1);
        Desks.fault(2, 3, false, Check.IF, 1, 0);
        Desks.intRight(Check.IF, 1, 0, 0);
        Desks.fault(6, 4, false, Check.IF, 1, 0, 0, 0);
    }

    private static void callThere() {
        for (int f = 0; f < 8; f++) {
            UnitDesk desk = new UnitDesk();
            Desks.add(desk, f, 0, 0, false, Check.call(f));
            Check.due(f + " calls itself", desk.build(), 4);
            int other = 7 - f;
            Check.text(desk, f, Check.call(other));
            Check.due(other + " is not there", desk.build(), -1);
            Check.look(other + " is not there", desk, f, 4, 0);
            desk.sign(other, 0, 0, false);
            Check.due(other + " is there, with an empty text", desk.build(), -1);
            Check.look("the call of one with an empty text is right", desk, f, 0, -1, 2, 2);
            Check.look("the one with an empty text is not", desk, other, 2, 0);
            Check.text(desk, other, 100);
            Check.due(other + " is there", desk.build(), 8);
            desk.drop(other);
            Check.due(other + " is there no more", desk.build(), -1);
            Check.look(other + " is there no more", desk, f, 4, 0);
        }
    }

    /** Calls of another function and of itself, with arguments from none to one too many. */
    private static void asManyAsParameters() {
        for (int parameters = 0; parameters <= 3; parameters++) {
            for (int arguments = 0; arguments <= parameters + 1; arguments++) {
                int[] behind = Desks.times(arguments, 100);
                for (int called = 0; called < 2; called++) {
                    UnitDesk desk = new UnitDesk();
                    Desks.add(desk, 0, parameters, 0, false, 100);
                    Desks.add(desk, 1, parameters, 0, false, Desks.times(1, Check.call(called), behind));
                    desk.build();
                    String what = arguments + " arguments for " + parameters + " parameters";
                    int kind = arguments < parameters ? 2 : arguments > parameters ? 6 : 0;
                    Check.look(what, desk, 1, kind, kind == 0 ? -1 : arguments + (kind == 2 ? 1 : 0), 2);
                }
            }
        }
    }

    private static void leafTypes() {
        Desks.intRight(0);
        Desks.fault(5, 0, true, 0);
        Desks.boolRight(1);
        Desks.fault(5, 0, false, 1);
        for (int token : new int[] {100, 101, Integer.MAX_VALUE}) {
            Desks.intRight(token);
            Desks.fault(5, 0, true, token);
        }
        for (int token : new int[] {Check.TRUE, Check.FALSE}) {
            Desks.boolRight(token);
            Desks.fault(5, 0, false, token);
        }
    }

    private static void intSigns() {
        for (int sign : INT_SIGNS) {
            Desks.intRight(sign, 0, 0);
            Desks.fault(5, 0, true, sign, 0, 0);
            takesInts(sign, false);
        }
    }

    private static void boolSigns() {
        for (int sign : BOOL_SIGNS) {
            Desks.boolRight(sign, 0, 0);
            Desks.fault(5, 0, false, sign, 0, 0);
            takesInts(sign, true);
        }
    }

    private static void takesInts(int sign, boolean bool) {
        Desks.fault(5, 1, bool, sign, 1, 0);
        Desks.fault(5, 2, bool, sign, 0, 1);
        Desks.fault(5, 1, bool, sign, 1, 1);
    }

    private static void ifTypes() {
        Desks.intRight(Check.IF, 1, 0, 100);
        Desks.boolRight(Check.IF, 1, 1, Check.TRUE);
        Desks.fault(5, 1, false, Check.IF, 0, 0, 100);
        Desks.fault(5, 1, true, Check.IF, 100, 1, Check.TRUE);
        Desks.fault(5, 3, false, Check.IF, 1, 0, 1);
        Desks.fault(5, 3, true, Check.IF, 1, 1, 0);
        Desks.fault(5, 0, true, Check.IF, 1, 0, 100);
        Desks.fault(5, 0, false, Check.IF, 1, 1, Check.TRUE);
        Desks.intRight(Check.IF, Check.IF, 1, 1, 1, Check.IF, 1, 0, 0, Check.PLUS, 0, 0);
    }

    private static void callTypes() {
        Desks.intRight(Check.call(0), 0, 1, 0);
        Desks.fault(5, 0, true, Check.call(0), 0, 1, 0);
        Desks.fault(5, 1, false, Check.call(0), 1, 1, 0);
        Desks.fault(5, 2, false, Check.call(0), 0, 0, 0);
        Desks.fault(5, 3, false, Check.call(0), 0, 1, 1);
        Desks.boolRight(Check.call(1));
        Desks.fault(5, 0, false, Check.call(1));
        Desks.boolRight(Check.call(2), 1);
        Desks.fault(5, 1, true, Check.call(2), 0);
        Desks.intRight(Check.call(Desks.UNDER_TEST), 0, 1);
        Desks.boolRight(Check.call(Desks.UNDER_TEST), 0, 1);
        Desks.fault(5, 1, false, Check.call(Desks.UNDER_TEST), 1, 1);
        Desks.fault(5, 2, true, Check.call(Desks.UNDER_TEST), 0, 0);
    }

    private static void whole() {
        Desks.fault(5, 0, false, 1);
        Desks.fault(5, 0, false, 1, 0);
        Desks.fault(5, 0, true, 0, 0);
        Desks.fault(5, 0, true, 0, 1);
        Desks.fault(5, 0, true, Check.PLUS, 0, 0, 1);
        Desks.fault(6, 1, false, 0, 1);
        Desks.fault(6, 1, true, 1, 0);
    }

    private static void firstCounts() {
        int[] faulty = {-1, 2, Check.call(7), 1};
        int[] kinds = {1, 3, 4, 5};
        for (int i = 0; i < faulty.length; i++) {
            for (int j = 0; j < faulty.length; j++) {
                Desks.fault(kinds[i], 1, false, Check.PLUS, faulty[i], faulty[j]);
            }
            Desks.fault(kinds[i], 1, false, Check.PLUS, faulty[i]);
            Desks.fault(kinds[i], 1, false, Check.PLUS, faulty[i], 0, 0);
            Desks.fault(kinds[i], 2, true, Check.PLUS, 0, faulty[i]);
        }
        Desks.fault(2, 2, true, Check.PLUS, 0);
    }

    private static void noToken() {
        Desks.fault(1, 0, false, -1);
        Desks.fault(1, 0, false, -1, 0);
        Desks.fault(1, 29, true, Desks.times(29, Check.call(2), 19));
        Desks.fault(1, 29, false, Desks.times(29, Check.PLUS, 99));
        Desks.fault(1, 1, false, Check.IF, 19, 0, 0);
        Desks.fault(1, 2, false, Check.IF, 1, 19, 0);
        Desks.fault(1, 3, false, Check.IF, 1, 0, 19);
        Desks.fault(1, 2, false, Check.call(0), 0, 19, 0);
    }

    private static void textOver() {
        Desks.fault(2, 0, false);
        Desks.fault(2, 0, true);
        for (int token : new int[] {Check.PLUS, Check.EQUAL, Check.IF, Check.call(0), Check.call(2)}) {
            Desks.fault(2, 1, token == Check.EQUAL || token == Check.call(2), token);
        }
        Desks.fault(2, 29, false, Desks.times(29, Check.TIMES));
        Desks.fault(2, 30, false, Desks.times(30, Check.TIMES));
        Desks.fault(2, 30, false, Desks.times(30, Check.IF));
        Desks.fault(2, 30, true, Desks.times(30, Check.call(2)));
        Desks.fault(2, 30, false, Desks.times(15, Check.PLUS, Desks.times(15, 0)));
    }

    private static void noParameter() {
        Desks.fault(3, 0, false, 2);
        Desks.fault(3, 0, true, 2);
        Desks.fault(3, 29, false, Desks.times(29, Check.PLUS, 2));
        Desks.fault(3, 29, true, Desks.times(29, Check.call(2), 2));
        // Function 0 has three parameters, but the text is not its own.
        Desks.fault(3, 3, false, Check.call(0), 0, 1, 2);
    }

    private static void noFunction() {
        for (int f = 4; f < 8; f++) {
            Desks.fault(4, 0, false, Check.call(f));
            Desks.fault(4, 0, true, Check.call(f), -1);
            Desks.fault(4, 29, false, Desks.times(29, Check.PLUS, Check.call(f)));
        }
        Desks.fault(4, 1, true, Check.call(2), Check.call(4));
    }

    private static void typeAtFirstToken() {
        Desks.fault(5, 1, false, Check.PLUS, Check.LESS, 0, 0, 0);
        Desks.fault(5, 4, false, Check.PLUS, Check.PLUS, 0, 0, Check.LESS, 0, 0);
        Desks.fault(5, 29, false, Desks.times(29, Check.PLUS, 1));
        // What is wrong inside it, or that it is not all there, comes first.
        Desks.fault(1, 3, false, Check.PLUS, Check.LESS, 0, -1, 0);
        Desks.fault(2, 3, false, Check.PLUS, Check.LESS, 0);
        Desks.fault(3, 3, false, Check.PLUS, Check.LESS, 0, 2, 0);
        Desks.fault(4, 3, false, Check.PLUS, Check.LESS, 0, Check.call(7), 0);
        Desks.fault(5, 3, false, Check.PLUS, Check.LESS, 0, 1, 0);
        // What is wrong behind it comes later.
        Desks.fault(5, 1, false, Check.PLUS, Check.LESS, 0, 0, -1);
        Desks.fault(5, 1, false, Check.PLUS, Check.LESS, 0, 0);
    }

    private static void typeByWhat() {
        Desks.fault(5, 2, false, Check.PLUS, 0, Check.call(1));
        Desks.fault(5, 2, false, Check.call(0), 0, Check.PLUS, 0, 0, 0);
        Desks.fault(5, 1, true, Check.IF, Check.MINUS, 0, 0, 1, 1);
        // The second of IF is right whatever it is; the third and then the whole are what is looked at.
        Desks.fault(5, 3, false, Check.IF, 1, 1, 0);
        Desks.fault(5, 3, true, Check.IF, 1, 0, 1);
        Desks.fault(5, 0, false, Check.IF, 1, 1, 1);
        Desks.fault(5, 1, false, Check.PLUS, Check.IF, 1, 1, 1, 0);
        Desks.fault(5, 0, true, Check.call(0), 0, 1, 0);
    }

    private static void behind() {
        Desks.fault(6, 1, false, 0, 0);
        Desks.fault(6, 3, true, Check.LESS, 0, 0, 0);
        Desks.fault(6, 1, true, Check.call(1), 1);
        Desks.fault(6, 29, false, Desks.times(14, Check.TIMES, Desks.times(16, 0)));
        // Whatever it is, it stands behind the expression, and is not read.
        for (int token : new int[] {-1, 19, 2, Check.call(7), 1, Check.IF, Integer.MAX_VALUE}) {
            Desks.fault(6, 1, false, 0, token);
        }
    }
}
