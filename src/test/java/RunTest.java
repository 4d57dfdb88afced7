import java.util.NoSuchElementException;

/** Promises 12 to 14: runs of the image, what they give and what they use. */
public final class RunTest {
    public static void main(String[] args) {
        arithmetic();
        arguments();
        choices();
        calls();
        fuel();
        frames();
        numbers();
        argumentsLieOnTheStack();
        valueAndUsed();
        notInTheImage();
        Check.end();
    }

    private static void sign(int sign, boolean bool, int a, int b, int want) {
        UnitDesk desk = Desks.built(2, 0, bool, sign, 0, 1);
        String what = a + " sign " + sign + " " + b;
        Check.outcome(what, desk, desk.run(0, a, b, 99, 1000), 0, want, 4);
    }

    private static void arithmetic() {
        int least = Integer.MIN_VALUE;
        int most = Integer.MAX_VALUE;
        sign(Check.PLUS, false, 7, -3, 4);
        sign(Check.PLUS, false, most, 1, least);
        sign(Check.MINUS, false, 7, 9, -2);
        sign(Check.MINUS, false, least, 1, most);
        sign(Check.TIMES, false, -7, 9, -63);
        sign(Check.TIMES, false, 65536, 65536, 0);
        sign(Check.TIMES, false, least, -1, least);
        sign(Check.LESS, true, 7, 9, 1);
        sign(Check.LESS, true, 9, 7, 0);
        sign(Check.LESS, true, 7, 7, 0);
        sign(Check.LESS, true, least, most, 1);
        sign(Check.EQUAL, true, 7, 7, 1);
        sign(Check.EQUAL, true, 7, 8, 0);
        sign(Check.EQUAL, true, least, least, 1);
    }

    private static void arguments() {
        for (int k = 0; k < 3; k++) {
            UnitDesk desk = Desks.built(3, 0, false, k);
            Check.outcome("argument " + k, desk, desk.run(0, 10, 11, 12, 1000), 0, 10 + k, 2);
        }
        UnitDesk none = Desks.built(0, 0, false, Integer.MAX_VALUE);
        Check.outcome("no argument", none, none.run(0, 10, 11, 12, 1000), 0, Integer.MAX_VALUE - 100, 2);
        UnitDesk bool = Desks.built(1, 1, true, 0);
        Check.outcome("an argument is taken as it is", bool, bool.run(0, 5, 0, 0, 1000), 0, 5, 2);
    }

    private static void choices() {
        UnitDesk desk = Desks.built(1, 1, false, Check.IF, 0, Check.PLUS, 101, 102, 109);
        Check.outcome("1 chooses the second", desk, desk.run(0, 1, 0, 0, 1000), 0, 3, 7);
        Check.outcome("0 chooses the third", desk, desk.run(0, 0, 0, 0, 1000), 0, 9, 4);
        Check.outcome("all but 0 choose the second", desk, desk.run(0, -4, 0, 0, 1000), 0, 3, 7);
    }

    private static void calls() {
        UnitDesk desk = new UnitDesk();
        desk.sign(0, 2, 0, false);
        Check.text(desk, 0, Check.PLUS, 101, Check.call(4), 1, 0, Check.call(2));
        desk.sign(2, 0, 0, false);
        Check.text(desk, 2, 105);
        desk.sign(4, 3, 0, false);
        Check.text(desk, 4, Check.MINUS, Check.TIMES, 0, 1, 2);
        Check.due("build", desk.build() > 0, true);
        Check.outcome("calls", desk, desk.run(0, 3, 4, 0, 1000), 0, 1 + 4 * 3 - 5, 15);
        Check.outcome("each can be run", desk, desk.run(4, 7, 8, 9, 1000), 0, 47, 6);
        Check.outcome("each can be run", desk, desk.run(2, 7, 8, 9, 1000), 0, 5, 2);
    }

    private static void fuel() {
        UnitDesk desk = Desks.built(2, 0, false, Check.PLUS, 0, 1);
        Check.outcome("just enough", desk, desk.run(0, 3, 4, 0, 4), 0, 7, 4);
        for (int f = 0; f < 4; f++) {
            Check.outcome("fuel " + f, desk, desk.run(0, 3, 4, 0, f), 1, 0, f);
        }
        Check.outcome("below 0", desk, desk.run(0, 3, 4, 0, -1), 1, 0, 0);
        Check.outcome("far below 0", desk, desk.run(0, 3, 4, 0, Integer.MIN_VALUE), 1, 0, 0);
        Check.outcome("far above 1000", desk, desk.run(0, 3, 4, 0, Integer.MAX_VALUE), 0, 7, 4);
        mostFuel();
    }

    /** f(n) = IF n < 1 THEN 0 ELSE f(n - 1) + f(n - 1): 14 of fuel for a frame that calls, 7 for one that does not. */
    private static void mostFuel() {
        UnitDesk desk = Desks.built(1, 0, false, Check.IF, Check.LESS, 0, 101, 100,
                Check.PLUS, Check.call(0), Check.MINUS, 0, 101, Check.call(0), Check.MINUS, 0, 101);
        Check.outcome("5 deep", desk, desk.run(0, 5, 0, 0, 1000), 0, 0, 31 * 14 + 32 * 7);
        Check.outcome("5 deep, one too few", desk, desk.run(0, 5, 0, 0, 657), 1, 0, 657);
        Check.outcome("5 deep, just enough", desk, desk.run(0, 5, 0, 0, 658), 0, 0, 658);
        Check.outcome("6 deep", desk, desk.run(0, 6, 0, 0, 1000), 1, 0, 1000);
        Check.outcome("6 deep, more than 1000", desk, desk.run(0, 6, 0, 0, 2000), 1, 0, 1000);
        Check.outcome("6 deep, 999", desk, desk.run(0, 6, 0, 0, 999), 1, 0, 999);
    }

    /** f(n) = IF n < 1 THEN 7 ELSE f(n - 1): n + 1 frames, 8 of fuel down and 1 up for each but the last's 7. */
    private static void frames() {
        UnitDesk desk = Desks.built(1, 0, false, Check.IF, Check.LESS, 0, 101, 107, Check.call(0), Check.MINUS, 0, 101);
        Check.outcome("12 frames", desk, desk.run(0, 11, 0, 0, 1000), 0, 7, 11 * 9 + 7);
        Check.outcome("a frame more", desk, desk.run(0, 12, 0, 0, 1000), 2, 0, 12 * 8);
        Check.outcome("with just that fuel", desk, desk.run(0, 12, 0, 0, 12 * 8), 2, 0, 12 * 8);
        Check.outcome("with less", desk, desk.run(0, 12, 0, 0, 12 * 8 - 1), 1, 0, 12 * 8 - 1);
        UnitDesk endless = Desks.built(0, 0, false, Check.call(0));
        Check.outcome("endless", endless, endless.run(0, 0, 0, 0, 1000), 2, 0, 12);
        Check.outcome("endless, 11", endless, endless.run(0, 0, 0, 0, 11), 1, 0, 11);
    }

    /** f(n) = 1 + (1 + (1 + (1 + f(n)))): each frame leaves 4 numbers of its own and 1 for the next. */
    private static void numbers() {
        UnitDesk desk = Desks.built(1, 0, false, Check.PLUS, 101, Check.PLUS, 101, Check.PLUS, 101, Check.PLUS, 101,
                Check.call(0), 0);
        // The first frame has its argument there; each then puts 5 on it: 1 + 7 * 5 = 36, and 4 more are 40.
        int untilFull = 7 * 6 + 4;
        Check.outcome("the 41st number", desk, desk.run(0, 1, 0, 0, 1000), 3, 0, untilFull + 1);
        Check.outcome("with just that fuel", desk, desk.run(0, 1, 0, 0, untilFull + 1), 3, 0, untilFull + 1);
        Check.outcome("with less", desk, desk.run(0, 1, 0, 0, untilFull), 1, 0, untilFull);
        UnitDesk bare = Desks.built(0, 0, false, Check.PLUS, 101, Check.PLUS, 101, Check.PLUS, 101, Check.PLUS, 101,
                Check.call(0));
        Check.outcome("40 numbers, then another", bare, bare.run(0, 0, 0, 0, 1000), 3, 0, 10 * 5 + 1);
    }

    /** All of the 40 places are used, by the first frame's arguments, too, and given back. */
    private static void argumentsLieOnTheStack() {
        for (int parameters = 0; parameters < 4; parameters++) {
            UnitDesk desk = new UnitDesk();
            desk.sign(1, parameters, 0, false);
            Check.text(desk, 1, 101);
            for (int f = 2; f < 5; f++) {
                desk.sign(f, 0, 0, false);
                Check.text(desk, f, nest(13, f == 4 ? 101 : Check.call(f + 1)));
            }
            desk.edit(1, 0, Check.call(2));
            Check.due("build", desk.build() > 0, true);
            // 13 numbers in each of 3 frames, the arguments, and the innermost one's last number.
            int answer = parameters == 0 ? 0 : 3;
            Check.due(parameters + " arguments and 40 numbers", desk.run(1, 1, 1, 1, 1000), answer);
            Check.due("their sum", desk.value(), answer == 0 ? 40 : 0);
            Check.due("its own run", desk.run(2, 0, 0, 0, 1000), 0);
            Check.due("its own sum", desk.value(), 40);
        }
    }

    private static int[] nest(int depth, int inmost) {
        int[] tokens = new int[2 * depth + 1];
        for (int i = 0; i < depth; i++) {
            tokens[2 * i] = Check.PLUS;
            tokens[2 * i + 1] = 101;
        }
        tokens[2 * depth] = inmost;
        return tokens;
    }

    private static void valueAndUsed() {
        UnitDesk desk = Desks.built(1, 0, false, 0);
        Check.outcome("first", desk, desk.run(0, 9, 0, 0, 5), 0, 9, 2);
        Check.due("value() again", desk.value(), 9);
        Check.due("used() again", desk.used(), 2);
        Check.dueThrow("run of one that is not there", NoSuchElementException.class, () -> desk.run(1, 0, 0, 0, 5));
        Check.due("no run, the value stays", desk.value(), 9);
        Check.due("no run, the fuel stays", desk.used(), 2);
        desk.wipe(0);
        desk.build();
        Check.due("a build leaves the value", desk.value(), 9);
        Check.due("a build leaves the fuel", desk.used(), 2);
        Check.outcome("did not end", desk, desk.run(0, 9, 0, 0, 1), 1, 0, 1);
        Check.outcome("ends again", desk, desk.run(0, 8, 0, 0, 2), 0, 8, 2);
        Check.outcome("no fuel", desk, desk.run(0, 8, 0, 0, 0), 1, 0, 0);
    }

    private static void notInTheImage() {
        UnitDesk desk = Desks.built(1, 0, false, 0);
        for (int f : new int[] {-1, 1, 7, 8, Integer.MIN_VALUE, Integer.MAX_VALUE}) {
            Check.dueThrow("run(" + f + ")", NoSuchElementException.class, () -> desk.run(f, 0, 0, 0, 5));
        }
        desk.sign(1, 0, 0, false);
        Check.text(desk, 1, 101);
        Check.dueThrow("run before the build", NoSuchElementException.class, () -> desk.run(1, 0, 0, 0, 5));
        desk.build();
        Check.outcome("behind the build", desk, desk.run(1, 0, 0, 0, 5), 0, 1, 2);
        desk.drop(0);
        Check.outcome("dropped, in the image", desk, desk.run(0, 6, 0, 0, 5), 0, 6, 2);
        desk.build();
        Check.dueThrow("not in the image", NoSuchElementException.class, () -> desk.run(0, 0, 0, 0, 5));
    }
}
