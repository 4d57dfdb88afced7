import java.util.NoSuchElementException;

/** Promises 1 to 6, FUNCTIONS, SIGNATURE and TEXT: the edges, one test for each sentence that names one. */
public final class TextEdgesTest {
    private static final int[] NO_COUNTS_OF_PARAMETERS = {-1, 4, 5, 256, Integer.MIN_VALUE, Integer.MAX_VALUE};

    public static void main(String[] args) {
        Check.sentence("FUNCTIONS 0 .. 7.", TextEdgesTest::functions);
        Check.sentence("A function is there when it has a SIGNATURE", TextEdgesTest::there);
        Check.sentence("0 to 3 PARAMETERS, each INT or BOOL, and a RESULT, INT or BOOL", TextEdgesTest::signatures);
        Check.sentence("Its TEXT is a row of at most 30 TOKENS", TextEdgesTest::fullTexts);
        Check.sentence("0 .. 2 a parameter", TextEdgesTest::parameterTokens);
        Check.sentence("11 .. 18 a CALL of function 0 .. 7", TextEdgesTest::callTokens);
        Check.sentence("from 100 on the NUMBER that is 100 less", TextEdgesTest::numberTokens);
        Check.sentence("All others are none.", TextEdgesTest::noTokens);

        Check.sentence("No function, no image.", TextEdgesTest::newObject);

        Check.sentence("A function gets a signature (in place of what it had)", TextEdgesTest::signInPlace);
        Check.sentence("bit k: parameter k is BOOL; others do not count", TextEdgesTest::signBits);
        Check.sentence("Its text stays.", TextEdgesTest::signLeavesText);
        Check.sentence("Throws IllegalArgumentException when there is no such function, or parameters is not 0 .. 3.",
                TextEdgesTest::signRefused);

        Check.sentence("A function is there no more", TextEdgesTest::dropped);
        Check.sentence("its text is empty", TextEdgesTest::dropEmptiesText);
        Check.sentence("its units stay", TextEdgesTest::dropLeavesUnits);
        Check.sentence("drop: Throws IllegalArgumentException when there is no such function.",
                TextEdgesTest::dropRefused);

        Check.sentence("Puts a token behind a function's text, also when it is none: true", TextEdgesTest::tokenPut);
        Check.sentence("false when it has 30.", TextEdgesTest::tokenFull);
        Check.sentence("token: Throws IllegalArgumentException when there is no such function",
                TextEdgesTest::tokenRefused);
        Check.sentence("IllegalStateException when it is not there.", TextEdgesTest::tokenNotThere);

        Check.sentence("Token k of a text becomes another one.", TextEdgesTest::edited);
        Check.sentence("edit: Throws IllegalArgumentException when there is no such function",
                TextEdgesTest::editRefused);
        Check.sentence("NoSuchElementException when there is no token k.", TextEdgesTest::editNoToken);

        Check.sentence("A text is empty: how many tokens it had.", TextEdgesTest::wiped);
        Check.sentence("wipe: Throws IllegalArgumentException when there is no such function.",
                TextEdgesTest::wipeRefused);
        Check.end();
    }

    private static void functions() {
        for (int f = 0; f < 8; f++) {
            UnitDesk desk = new UnitDesk();
            Desks.add(desk, f, 0, 0, false, 100);
            desk.edit(f, 0, 100 + f);
            Check.due("build() of function " + f, desk.build(), 4);
            Check.look("function " + f, desk, f, 0, -1, 2, 1, 0);
            Check.outcome("function " + f, desk, desk.run(f, 0, 0, 0, 9), 0, f, 2);
            Check.due("wipe(" + f + ")", desk.wipe(f), 1);
            desk.drop(f);
            Check.due("build() without it", desk.build(), 0);
        }
        UnitDesk desk = Desks.busy();
        Check.changesNothing(desk, () -> {
            for (int f : Check.NO_FUNCTIONS) {
                Check.dueThrow("sign of " + f, IllegalArgumentException.class, () -> desk.sign(f, 0, 0, false));
                Check.dueThrow("token of " + f, IllegalArgumentException.class, () -> { desk.token(f, 100); });
                Check.dueThrow("look at " + f, IllegalArgumentException.class, () -> desk.look(f, 0));
                Check.dueThrow("run of " + f, NoSuchElementException.class, () -> desk.run(f, 0, 0, 0, 9));
            }
        });
    }

    private static void there() {
        UnitDesk desk = new UnitDesk();
        Check.dueThrow("token before a sign", IllegalStateException.class, () -> { desk.token(4, 100); });
        desk.sign(4, 0, 0, false);
        Check.due("an empty text is built, too", desk.build(), -1);
        Check.look("an empty text is built, too", desk, 4, 2, 0, 2, 0, -1);
        Check.counts("an empty text is built, too", desk, 0, 1, 1, 0, 1);
        Check.due("token behind a sign", desk.token(4, 100), true);
        desk.drop(4);
        Check.dueThrow("token behind a drop", IllegalStateException.class, () -> { desk.token(4, 100); });
        Check.due("build() without it", desk.build(), 0);
    }

    /** Each of the signatures, seen from each of the texts that are one parameter. */
    private static void signatures() {
        for (int parameters = 0; parameters <= 3; parameters++) {
            for (int types = 0; types < 8; types++) {
                for (int k = 0; k < 3; k++) {
                    signature(parameters, types, k, false);
                    signature(parameters, types, k, true);
                }
            }
        }
    }

    private static void signature(int parameters, int types, int k, boolean bool) {
        UnitDesk desk = Desks.one(parameters, types, bool, k);
        String what = parameters + " parameters, types " + types + ", bool " + bool + ", text " + k;
        boolean isBool = (types >> k & 1) == 1;
        int kind = k >= parameters ? 3 : isBool != bool ? 5 : 0;
        Check.due(what, desk.build(), kind == 0 ? 4 : -1);
        Check.look(what, desk, 0, kind, kind == 0 ? -1 : 0);
        if (kind == 0) {
            Check.image(what, desk, 1, k, 10, parameters);
        }
    }

    /** Each function has a row of its own, and all of its 30 tokens are read. */
    private static void fullTexts() {
        UnitDesk desk = new UnitDesk();
        for (int f = 0; f < 8; f++) {
            desk.sign(f, 1, 0, false);
            for (int i = 0; i < 30; i++) {
                Check.due("token " + i + " of " + f, desk.token(f, i < 29 ? Check.call(f) : 0), true);
            }
            Check.due("token 30 of " + f, desk.token(f, 0), false);
        }
        Check.due("8 times 62 words", desk.build(), -2);
        for (int f = 0; f < 8; f++) {
            Check.look("30 tokens are right", desk, f, 0, -1, 2, 1, -1);
            Check.due("30 tokens", desk.wipe(f), 30);
        }
    }

    private static void parameterTokens() {
        for (int k = 0; k < 3; k++) {
            UnitDesk desk = Desks.built(3, 0, false, k);
            Check.image("token " + k, desk, 1, k, 10, 3);
        }
        UnitDesk desk = Desks.one(3, 0, false, 3);
        Check.due("token 3 is no parameter", desk.build(), -1);
        Check.look("token 3 is no parameter", desk, 0, 2, 1);
        desk.edit(0, 0, -1);
        Check.due("token -1 is no parameter", desk.build(), -1);
        Check.look("token -1 is no parameter", desk, 0, 1, 0);
    }

    private static void callTokens() {
        for (int f = 0; f < 8; f++) {
            UnitDesk desk = new UnitDesk();
            Desks.add(desk, 3, 0, 0, false, 11 + f);
            desk.sign(f, 0, 0, false);
            if (f != 3) {
                Check.text(desk, f, 100);
            }
            int words = f == 3 ? 4 : 8;
            Check.due("token " + (11 + f), desk.build(), words);
            int own = desk.look(3, 4);
            Check.due("a call", desk.word(own), 9);
            Check.due("of function " + f, desk.word(own + 1), desk.look(f, 4));
        }
        Desks.fault(5, 0, false, 10);
        Desks.fault(1, 0, false, 19);
    }

    private static void numberTokens() {
        for (int n : new int[] {0, 1, 2, 18, 99, 100, 65536, Integer.MAX_VALUE - 101, Integer.MAX_VALUE - 100}) {
            UnitDesk desk = Desks.built(0, 0, false, 100 + n);
            Check.image("token " + (100 + n), desk, 0, n, 10, 0);
            Check.outcome("token " + (100 + n), desk, desk.run(0, 0, 0, 0, 9), 0, n, 2);
        }
        Desks.fault(1, 0, false, 99);
    }

    private static void noTokens() {
        for (int token = -130; token < 0; token++) {
            Desks.fault(1, 0, false, token);
        }
        for (int token = 19; token < 100; token++) {
            Desks.fault(1, 0, false, token);
        }
        // These would be tokens if bits were cut off, or if 100 were taken away before they are looked at.
        for (int token : new int[] {Integer.MIN_VALUE, Integer.MIN_VALUE + 99, Integer.MIN_VALUE + 100, -256, -65536}) {
            Desks.fault(1, 0, false, token);
        }
    }

    private static void newObject() {
        UnitDesk desk = new UnitDesk();
        Check.image("no image", desk);
        Check.dueThrow("word(0)", NoSuchElementException.class, () -> desk.word(0));
        Check.counts("no build", desk, 0, 0, 0, 0, 0);
        for (int f = 0; f < 8; f++) {
            int function = f;
            Check.look("no build", desk, f, 0, -1, 0, 0, -1);
            Check.dueThrow("token of " + f, IllegalStateException.class, () -> { desk.token(function, 100); });
            Check.dueThrow("edit of " + f, NoSuchElementException.class, () -> desk.edit(function, 0, 100));
            Check.dueThrow("run of " + f, NoSuchElementException.class, () -> desk.run(function, 0, 0, 0, 9));
            Check.due("wipe of " + f, desk.wipe(f), 0);
        }
        Check.outcome("no run", desk, 0, 0, 0, 0);
        Check.due("build() without a function", desk.build(), 0);
        Check.counts("a build without a function", desk, 0, 0, 0, 0, 0);
    }

    private static void signInPlace() {
        UnitDesk desk = Desks.built(3, 7, true, 2);
        desk.sign(0, 3, 0, false);
        Check.due("nothing of the types and the result is left", desk.build(), 4);
        desk.sign(0, 2, 0, false);
        Check.due("nothing of the parameters is left", desk.build(), -1);
        Check.look("nothing of the parameters is left", desk, 0, 3, 0, 2, 2, 0);
        desk.sign(0, 3, 7, true);
        Check.due("the first again", desk.build(), 4);
        Check.look("the first again", desk, 0, 0, -1, 1, 2, 0);
    }

    private static void signBits() {
        for (int parameters = 0; parameters <= 3; parameters++) {
            for (int types = 0; types < 1 << parameters; types++) {
                UnitDesk desk = Desks.built(parameters, types, false, 100);
                for (int bit = parameters; bit < 32; bit++) {
                    desk.sign(0, parameters, types | 1 << bit, false);
                    desk.build();
                    Check.look("bit " + bit + " beside " + parameters + " parameters", desk, 0, 0, -1, 1, 1);
                }
                desk.sign(0, parameters, types | -1 << parameters, false);
                desk.build();
                Check.look("all the others beside " + parameters + " parameters", desk, 0, 0, -1, 1, 1);
                for (int bit = 0; bit < parameters; bit++) {
                    desk.sign(0, parameters, types ^ 1 << bit, false);
                    desk.build();
                    Check.due("bit " + bit + " of " + parameters + " parameters", desk.look(0, 2), 2);
                }
            }
        }
    }

    private static void signLeavesText() {
        UnitDesk desk = new UnitDesk();
        desk.sign(0, 0, 0, false);
        desk.sign(0, 3, 0, false);
        Check.due("an empty one", desk.wipe(0), 0);
        Check.text(desk, 0, Desks.times(30, 101));
        desk.sign(0, 1, 7, true);
        Check.due("a full one", desk.token(0, 101), false);
        Check.due("a full one", desk.wipe(0), 30);
        Check.text(desk, 0, Check.MINUS, 102, 103);
        desk.sign(0, 0, 0, false);
        Check.due("every token of it", desk.build(), 7);
        Check.image("every token of it", desk, 0, 2, 0, 3, 3, 10, 0);
    }

    private static void signRefused() {
        UnitDesk desk = Desks.busy();
        Check.changesNothing(desk, () -> {
            for (int f : Check.NO_FUNCTIONS) {
                Check.dueThrow("sign of " + f, IllegalArgumentException.class, () -> desk.sign(f, 1, 0, false));
                Check.dueThrow("sign of " + f, IllegalArgumentException.class, () -> desk.sign(f, -1, 0, false));
            }
            for (int p : NO_COUNTS_OF_PARAMETERS) {
                Check.dueThrow(p + " parameters", IllegalArgumentException.class, () -> desk.sign(0, p, 0, true));
                Check.dueThrow(p + " parameters", IllegalArgumentException.class, () -> desk.sign(7, p, 0, true));
                Check.dueThrow(p + " parameters", IllegalArgumentException.class, () -> desk.sign(5, p, 0, true));
            }
            Check.dueThrow("5 is not there", IllegalStateException.class, () -> { desk.token(5, 100); });
        });
        for (int p = 0; p <= 3; p++) {
            desk.sign(5, p, 0, false);
            Check.text(desk, 5, 100);
            Check.due(p + " parameters", desk.build(), 7 + 4 + 4 + 14);
            Check.due(p + " parameters", desk.word(desk.look(5, 4) + 3), p);
        }
    }

    private static void dropped() {
        UnitDesk desk = Desks.busy();
        desk.drop(3);
        Check.dueThrow("token", IllegalStateException.class, () -> { desk.token(3, Check.TRUE); });
        Check.look("the latest build is as it was", desk, 3, 0, -1, 2, 1, 7);
        Check.outcome("the image is as it was", desk, desk.run(3, 0, 0, 0, 9), 0, 1, 2);
        Check.due("build() without it", desk.build(), 7 + 14);
        Check.look("it was not there", desk, 3, 0, -1, 0, 1, -1);
        Check.dueThrow("run", NoSuchElementException.class, () -> desk.run(3, 0, 0, 0, 9));
        desk.drop(3);
        desk.drop(0);
        Check.due("a call of it", desk.build(), -1);
        Check.look("a call of it", desk, 7, 4, 3, 2, 1, 7);
    }

    private static void dropEmptiesText() {
        UnitDesk desk = Desks.one(0, 0, false, Desks.times(30, 101));
        desk.drop(0);
        Check.due("wipe()", desk.wipe(0), 0);
        Check.dueThrow("edit", NoSuchElementException.class, () -> desk.edit(0, 0, 100));
        desk.sign(0, 0, 0, false);
        Check.due("build()", desk.build(), -1);
        Check.look("an empty text", desk, 0, 2, 0, 2, 0, -1);
        Check.text(desk, 0, Desks.times(30, 101));
        desk.drop(0);
        desk.drop(0);
        desk.sign(0, 0, 0, false);
        Check.due("twice dropped", desk.wipe(0), 0);
    }

    private static void dropLeavesUnits() {
        UnitDesk desk = Desks.built(0, 0, false, 101);
        desk.edit(0, 0, 102);
        desk.build();
        desk.edit(0, 0, 103);
        desk.build();
        desk.drop(0);
        Check.due("it keeps 3", desk.look(0, 3), 3);
        desk.build();
        Check.look("it keeps 3 behind a build", desk, 0, 0, -1, 0, 3, -1);
        desk.sign(0, 0, 0, false);
        for (int token = 101; token <= 103; token++) {
            Check.text(desk, 0, token);
            Check.due("build()", desk.build(), 4);
            Check.look("the unit of " + token, desk, 0, 0, -1, 1, 3, 0);
            Check.image("the unit of " + token, desk, 0, token - 100, 10, 0);
        }
    }

    private static void dropRefused() {
        UnitDesk desk = Desks.busy();
        Check.changesNothing(desk, () -> {
            for (int f : Check.NO_FUNCTIONS) {
                Check.dueThrow("drop(" + f + ")", IllegalArgumentException.class, () -> desk.drop(f));
            }
            desk.drop(5);
        });
    }

    private static void tokenPut() {
        UnitDesk desk = new UnitDesk();
        desk.sign(0, 0, 0, false);
        int[] tokens = {-1, 19, 99, Integer.MIN_VALUE, Integer.MAX_VALUE, 0, 18, 100};
        for (int i = 0; i < tokens.length; i++) {
            Check.due("token " + tokens[i], desk.token(0, tokens[i]), true);
        }
        Check.due("all of them are there", desk.wipe(0), tokens.length);
        for (int token : new int[] {Check.MINUS, 102, 105}) {
            desk.token(0, token);
        }
        Check.due("each one behind the others", desk.build(), 7);
        Check.image("each one behind the others", desk, 0, 2, 0, 5, 3, 10, 0);
        Check.due("one that is none", desk.token(0, -1), true);
        Check.due("one that is none", desk.build(), -1);
        Check.look("one that is none", desk, 0, 6, 3);
    }

    private static void tokenFull() {
        UnitDesk desk = new UnitDesk();
        desk.sign(0, 1, 0, false);
        Check.text(desk, 0, Desks.times(29, Check.call(0)));
        Check.due("the 30th", desk.token(0, 0), true);
        Check.due("build()", desk.build(), 62);
        Check.changesNothing(desk, () -> {
            for (int token : new int[] {0, 100, -1, Integer.MIN_VALUE, Integer.MAX_VALUE}) {
                Check.due("the 31st", desk.token(0, token), false);
            }
        });
        Check.due("30 tokens", desk.wipe(0), 30);
        Check.due("room again", desk.token(0, 100), true);
    }

    private static void tokenRefused() {
        UnitDesk desk = Desks.busy();
        Check.changesNothing(desk, () -> {
            for (int f : Check.NO_FUNCTIONS) {
                Check.dueThrow("token of " + f, IllegalArgumentException.class, () -> { desk.token(f, 100); });
                Check.dueThrow("token of " + f, IllegalArgumentException.class, () -> { desk.token(f, -1); });
            }
        });
    }

    private static void tokenNotThere() {
        UnitDesk desk = Desks.busy();
        Check.changesNothing(desk, () -> {
            for (int f : new int[] {1, 2, 4, 5, 6}) {
                Check.dueThrow("token of " + f, IllegalStateException.class, () -> { desk.token(f, 100); });
                Check.dueThrow("token of " + f, IllegalStateException.class, () -> { desk.token(f, -1); });
                Check.due("nothing was put", desk.wipe(f), 0);
            }
        });
        desk.sign(5, 0, 0, false);
        Check.due("nothing was put before it came", desk.wipe(5), 0);
    }

    private static void edited() {
        UnitDesk desk = Desks.one(2, 0, false, Desks.times(14, Check.PLUS, Desks.times(15, 0)));
        desk.token(0, 0);
        desk.edit(0, 29, 19);
        desk.build();
        Check.look("the last of 30", desk, 0, 6, 29);
        desk.edit(0, 0, 19);
        desk.build();
        Check.look("the first of 30", desk, 0, 1, 0);
        desk.edit(0, 0, Check.MINUS);
        desk.edit(0, 28, 1);
        desk.build();
        Check.look("the one before the last", desk, 0, 6, 29);
        UnitDesk single = Desks.one(0, 0, false, 19);
        single.edit(0, 0, 105);
        Check.due("the only one", single.build(), 4);
        Check.image("the only one", single, 0, 5, 10, 0);
        Check.due("there are no more and no fewer", single.wipe(0), 1);
    }

    private static void editRefused() {
        UnitDesk desk = Desks.busy();
        Check.changesNothing(desk, () -> {
            for (int f : Check.NO_FUNCTIONS) {
                Check.dueThrow("edit of " + f, IllegalArgumentException.class, () -> desk.edit(f, 0, 100));
                Check.dueThrow("edit of " + f, IllegalArgumentException.class, () -> desk.edit(f, -1, 100));
            }
        });
    }

    private static void editNoToken() {
        UnitDesk desk = Desks.busy();
        Check.changesNothing(desk, () -> {
            for (int k : new int[] {-1, 3, 4, 29, 30, 256, Integer.MIN_VALUE, Integer.MAX_VALUE}) {
                Check.dueThrow("token " + k + " of 3", NoSuchElementException.class, () -> desk.edit(0, k, 100));
                Check.dueThrow("token " + k + " of none", NoSuchElementException.class, () -> desk.edit(5, k, 100));
            }
        });
        desk.wipe(0);
        Check.dueThrow("token 0 of an empty text", NoSuchElementException.class, () -> desk.edit(0, 0, 100));
        Check.text(desk, 0, Desks.times(30, 100));
        desk.edit(0, 29, 101);
        Check.dueThrow("token 30 of a full text", NoSuchElementException.class, () -> desk.edit(0, 30, 100));
        Check.dueThrow("token -1 of a full text", NoSuchElementException.class, () -> desk.edit(0, -1, 100));
    }

    private static void wiped() {
        UnitDesk desk = Desks.busy();
        Check.due("of none that is there", desk.wipe(5), 0);
        Check.due("of 1", desk.wipe(3), 1);
        Check.due("of an empty one", desk.wipe(3), 0);
        Check.due("build()", desk.build(), -1);
        Check.look("an empty one is there", desk, 3, 2, 0, 2, 1, 7);
        Check.look("the others are as they were", desk, 0, 0, -1, 1, 1, 0);
        Check.text(desk, 3, Desks.times(30, 100));
        Check.due("of 30", desk.wipe(3), 30);
        Check.text(desk, 3, Check.TRUE);
        Check.due("nothing of it is left", desk.build(), 25);
        Check.look("nothing of it is left", desk, 3, 0, -1, 1, 1, 7);
    }

    private static void wipeRefused() {
        UnitDesk desk = Desks.busy();
        Check.changesNothing(desk, () -> {
            for (int f : Check.NO_FUNCTIONS) {
                Check.dueThrow("wipe(" + f + ")", IllegalArgumentException.class, () -> desk.wipe(f));
            }
        });
    }
}
