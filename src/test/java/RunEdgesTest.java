import java.util.NoSuchElementException;

/** Promises 12 to 14, A RUN, FRAME and FUEL: the edges, one test for each sentence that names one. */
public final class RunEdgesTest {
    private static final int LEAST = Integer.MIN_VALUE;
    private static final int MOST = Integer.MAX_VALUE;
    private static final int ENOUGH = 1000;

    public static void main(String[] args) {
        Check.sentence("0 n puts n on it", RunEdgesTest::numbers);
        Check.sentence("1 k argument k", RunEdgesTest::arguments);
        Check.sentence("take two numbers off, put what + - * (ints wrap) make of them", RunEdgesTest::wraps);
        Check.sentence("< = (1 or 0)", RunEdgesTest::comparisons);
        Check.sentence("7 d takes one off, goes on d words behind it (behind the d) if it is 0", RunEdgesTest::unless);
        Check.sentence("8 e goes on e words behind it", RunEdgesTest::skip);
        Check.sentence("whose arguments are the topmost numbers, as many as that function has (the last one topmost)",
                RunEdgesTest::topmostNumbers);
        Check.sentence("they lie on the stack until the frame ends", RunEdgesTest::argumentsLieOnTheStack);
        Check.sentence("the frame ends: all that it has on the stack, its arguments, too, goes, but what was topmost "
                + "comes onto it again", RunEdgesTest::frameEnds);
        Check.sentence("Each of these costs 1 of the FUEL", RunEdgesTest::eachCostsOne);
        Check.sentence("also one at which the run ends by 2 or 3", RunEdgesTest::lastCostsOne);

        Check.sentence("Runs a function of the image with its first arguments of a, b, c",
                RunEdgesTest::firstArguments);
        Check.sentence("0 it has ended", RunEdgesTest::ended);
        Check.sentence("1 FUEL is used up", RunEdgesTest::usedUp);
        Check.sentence("FUEL (below 0 as 0)", RunEdgesTest::belowZero);
        Check.sentence("FUEL (above 1000 as 1000)", RunEdgesTest::above1000);
        Check.sentence("2 a frame more than 12", RunEdgesTest::frameTooMany);
        Check.sentence("3 more than 40 numbers would lie on the stack", RunEdgesTest::numberTooMany);
        Check.sentence("more than 40 numbers (of all frames)", RunEdgesTest::numbersOfAllFrames);
        Check.sentence("Throws NoSuchElementException when it is not in the image.", RunEdgesTest::refused);

        Check.sentence("What the latest run that ended gave", RunEdgesTest::valueOfLatest);
        Check.sentence("0 before, and behind a run that did not end.", RunEdgesTest::valueZero);
        Check.sentence("How much fuel the latest run used", RunEdgesTest::usedOfLatest);
        Check.sentence("used: 0 before.", RunEdgesTest::usedBefore);
        Check.end();
    }

    private static void run(String what, UnitDesk desk, int a, int value, int used) {
        Check.outcome(what, desk, desk.run(0, a, 0, 0, ENOUGH), 0, value, used);
    }

    private static void numbers() {
        for (int n : new int[] {0, 1, 10, MOST - 100}) {
            run("number " + n, Desks.built(0, 0, false, Check.number(n)), 5, n, 2);
        }
    }

    private static void arguments() {
        int[] values = {LEAST, -1, MOST};
        for (int parameters = 1; parameters <= 3; parameters++) {
            for (int k = 0; k < parameters; k++) {
                UnitDesk desk = Desks.built(parameters, 0, false, k);
                int answer = desk.run(0, values[0], values[1], values[2], ENOUGH);
                Check.outcome("argument " + k + " of " + parameters, desk, answer, 0, values[k], 2);
            }
        }
        // Numbers lie on the arguments, and they are found below them.
        UnitDesk deep = Desks.built(3, 0, false, Check.PLUS, 101, Check.PLUS, 102, Check.PLUS, 0, Check.PLUS, 1, 2);
        Check.outcome("below other numbers", deep, deep.run(0, 10, 200, 3000, ENOUGH), 0, 3213, 10);
    }

    private static void sign(int sign, int a, int b, int want) {
        UnitDesk desk = Desks.built(2, 0, sign >= Check.LESS, sign, 0, 1);
        String what = "sign " + sign + " of " + a + " and " + b;
        Check.outcome(what, desk, desk.run(0, a, b, 0, ENOUGH), 0, want, 4);
    }

    private static void wraps() {
        sign(Check.PLUS, MOST, 0, MOST);
        sign(Check.PLUS, MOST, 1, LEAST);
        sign(Check.PLUS, LEAST, -1, MOST);
        sign(Check.PLUS, LEAST, LEAST, 0);
        sign(Check.PLUS, MOST, MOST, -2);
        sign(Check.MINUS, LEAST, 0, LEAST);
        sign(Check.MINUS, LEAST, 1, MOST);
        sign(Check.MINUS, MOST, -1, LEAST);
        sign(Check.MINUS, 0, LEAST, LEAST);
        sign(Check.MINUS, 0, MOST, LEAST + 1);
        sign(Check.TIMES, MOST, 2, -2);
        sign(Check.TIMES, LEAST, -1, LEAST);
        sign(Check.TIMES, LEAST, 2, 0);
        sign(Check.TIMES, 65536, 65536, 0);
        sign(Check.TIMES, MOST, MOST, 1);
        sign(Check.TIMES, 46341, 46341, -2147479015);
    }

    private static void comparisons() {
        sign(Check.LESS, 0, 1, 1);
        sign(Check.LESS, 1, 1, 0);
        sign(Check.LESS, 1, 0, 0);
        // A difference that wraps must not tell which is less.
        sign(Check.LESS, LEAST, MOST, 1);
        sign(Check.LESS, MOST, LEAST, 0);
        sign(Check.LESS, LEAST, 1, 1);
        sign(Check.LESS, 1, LEAST, 0);
        sign(Check.LESS, LEAST, LEAST, 0);
        sign(Check.LESS, MOST - 1, MOST, 1);
        sign(Check.EQUAL, 0, 0, 1);
        sign(Check.EQUAL, LEAST, LEAST, 1);
        sign(Check.EQUAL, MOST, MOST, 1);
        sign(Check.EQUAL, LEAST, MOST, 0);
        sign(Check.EQUAL, 1, -1, 0);
        sign(Check.EQUAL, 1, 65537, 0);
    }

    private static void unless() {
        UnitDesk desk = Desks.built(1, 1, false, Check.IF, 0, Check.PLUS, 101, 102, 109);
        run("0", desk, 0, 9, 4);
        for (int a : new int[] {1, -1, 2, 256, LEAST, MOST}) {
            run("all but 0, such as " + a, desk, a, 3, 7);
        }
        // What it takes off is the 40th number: there is room for the one that comes then.
        UnitDesk second = nested(13, Check.IF, Check.TRUE, 101, 102);
        Check.due("it takes one off", second.run(3, 0, 0, 0, ENOUGH), 0);
        Check.due("it takes one off", second.value(), 39 + 1);
        UnitDesk third = nested(13, Check.IF, Check.FALSE, 101, 102);
        Check.due("it takes one off", third.run(3, 0, 0, 0, ENOUGH), 0);
        Check.due("it takes one off", third.value(), 39 + 2);
    }

    private static void skip() {
        UnitDesk desk = Desks.built(1, 1, false, Check.PLUS, Check.IF, 0, 101, Check.PLUS, 110, 120, 105);
        run("over the third", desk, 1, 6, 2 + 2 + 1 + 1 + 1);
        run("into the third", desk, 0, 35, 2 + 3 + 1 + 1 + 1);
        UnitDesk inside = Desks.built(1, 1, false, Check.IF, 0, Check.IF, 0, 101, 102, Check.IF, 0, 103, 104);
        run("from one over another", inside, 1, 1, 8);
        run("into another's third", inside, 0, 4, 6);
    }

    private static UnitDesk nested(int ones, int... inmost) {
        UnitDesk desk = new UnitDesk();
        nest(desk, ones, inmost);
        return desk;
    }

    /** Functions 3, 4 and 5 put so many ones on the stack, one frame on the other, and the last the expression. */
    private static void nest(UnitDesk desk, int ones, int... inmost) {
        for (int f = 3; f <= 5; f++) {
            desk.sign(f, 0, 0, false);
            for (int i = 0; i < ones; i++) {
                desk.token(f, Check.PLUS);
                desk.token(f, 101);
            }
            for (int token : f == 5 ? inmost : new int[] {Check.call(f + 1)}) {
                desk.token(f, token);
            }
        }
        Check.due("build() > 0", desk.build() > 0, true);
    }

    private static void topmostNumbers() {
        UnitDesk desk = new UnitDesk();
        Desks.add(desk, 0, 0, 0, false, Check.PLUS, 107, Check.call(3), 101, 102, 103);
        Desks.add(desk, 1, 0, 0, false, Check.PLUS, 107, Check.call(4), 101);
        Desks.add(desk, 2, 0, 0, false, Check.PLUS, 107, Check.call(5));
        Desks.add(desk, 3, 3, 0, false, Check.PLUS, Check.TIMES, 0, 200, Check.PLUS, Check.TIMES, 1, 110, 2);
        Desks.add(desk, 4, 1, 0, false, Check.TIMES, 0, 200);
        Desks.add(desk, 5, 0, 0, false, 105);
        Check.due("build() > 0", desk.build() > 0, true);
        Check.outcome("three", desk, desk.run(0, 0, 0, 0, ENOUGH), 0, 7 + 123, 17);
        Check.outcome("one", desk, desk.run(1, 0, 0, 0, ENOUGH), 0, 7 + 100, 9);
        Check.outcome("none", desk, desk.run(2, 0, 0, 0, ENOUGH), 0, 7 + 5, 6);
    }

    /** The run's own function holds its arguments while the 39 ones of three frames and the last number come. */
    private static void argumentsLieOnTheStack() {
        for (int parameters = 0; parameters <= 3; parameters++) {
            for (int ones = 11; ones <= 13; ones++) {
                UnitDesk desk = nested(ones, 101);
                Desks.add(desk, 0, parameters, 0, false, Check.call(3));
                Check.due("build() > 0", desk.build() > 0, true);
                int numbers = parameters + 3 * ones + 1;
                Check.due(numbers + " numbers", desk.run(0, 0, 0, 0, ENOUGH), numbers <= 40 ? 0 : 3);
                Check.due("their sum", desk.value(), numbers <= 40 ? 3 * ones + 1 : 0);
            }
        }
    }

    private static void frameEnds() {
        UnitDesk desk = new UnitDesk();
        Desks.add(desk, 0, 0, 0, false, Check.MINUS, 120, Check.MINUS, Check.call(1), 101, 102, 103, 104);
        Desks.add(desk, 1, 3, 0, false, Check.PLUS, 0, Check.PLUS, 1, 2);
        Desks.add(desk, 2, 1, 0, false, Check.call(3), Check.call(3), Check.call(3), 0);
        Desks.add(desk, 3, 1, 0, false, Check.PLUS, 0, 101);
        Check.due("build() > 0", desk.build() > 0, true);
        Check.outcome("what lay below is as it was", desk, desk.run(0, 0, 0, 0, ENOUGH), 0, 20 - (6 - 4), 15);
        Check.outcome("what a frame gave is the next one's argument", desk, desk.run(2, 39, 0, 0, ENOUGH), 0, 42, 17);
        endedFramesGiveBack();
    }

    /** 38 numbers, again and again: each time, only one of them is left. */
    private static void endedFramesGiveBack() {
        UnitDesk desk = nested(12, Check.PLUS, 101, 101);
        Desks.add(desk, 0, 0, 0, false, Check.PLUS, Check.call(3), Check.PLUS, Check.call(3), Check.call(3));
        Desks.add(desk, 1, 0, 0, false, Check.PLUS, 101, Check.call(0));
        Check.due("build() > 0", desk.build() > 0, true);
        Check.due("2 are left, and 38", desk.run(0, 0, 0, 0, ENOUGH), 0);
        Check.due("2 are left, and 38", desk.value(), 3 * 38);
        Check.due("one more is left, and 38", desk.run(1, 0, 0, 0, ENOUGH), 3);
    }

    private static void eachCostsOne() {
        run("0 and 10", Desks.built(0, 0, false, 100), 0, 0, 2);
        run("1 and 10", Desks.built(1, 0, false, 0), 6, 6, 2);
        for (int sign = Check.PLUS; sign <= Check.EQUAL; sign++) {
            UnitDesk desk = Desks.built(2, 0, sign >= Check.LESS, sign, 0, 1);
            Check.due("run", desk.run(0, 1, 1, 0, ENOUGH), 0);
            Check.due("1, 1, " + (sign - 1) + " and 10", desk.used(), 4);
        }
        UnitDesk choice = Desks.built(1, 1, true, Check.IF, 0, 0, 0);
        run("1, 7, 1, 8 and 10", choice, 1, 1, 5);
        run("1, 7, 1 and 10", choice, 0, 0, 4);
        UnitDesk desk = Desks.one(1, 0, false, Check.call(1), 0);
        Desks.add(desk, 1, 1, 0, false, 0);
        Check.due("build()", desk.build(), 10);
        run("1, 9, 1, 10 and 10", desk, 4, 4, 5);
    }

    private static void lastCostsOne() {
        UnitDesk frames = Desks.built(0, 0, false, Check.call(0));
        Check.outcome("12 calls", frames, frames.run(0, 0, 0, 0, ENOUGH), 2, 0, 12);
        Check.outcome("just so much", frames, frames.run(0, 0, 0, 0, 12), 2, 0, 12);
        Check.outcome("one less", frames, frames.run(0, 0, 0, 0, 11), 1, 0, 11);
        UnitDesk numbers = nested(13, Check.PLUS, 101, 101);
        Check.outcome("41 numbers, 2 calls", numbers, numbers.run(3, 0, 0, 0, ENOUGH), 3, 0, 43);
        Check.outcome("just so much", numbers, numbers.run(3, 0, 0, 0, 43), 3, 0, 43);
        Check.outcome("one less", numbers, numbers.run(3, 0, 0, 0, 42), 1, 0, 42);
    }

    private static void firstArguments() {
        UnitDesk three = Desks.built(3, 0, false, Check.PLUS, 0, Check.PLUS, Check.TIMES, 1, 110, Check.TIMES, 2, 200);
        Check.outcome("three", three, three.run(0, 1, 2, 3, ENOUGH), 0, 321, 10);
        UnitDesk two = Desks.built(2, 0, false, Check.MINUS, 0, 1);
        Check.outcome("two", two, two.run(0, 9, 4, LEAST, ENOUGH), 0, 5, 4);
        UnitDesk one = Desks.built(1, 0, false, 0);
        Check.outcome("one", one, one.run(0, LEAST, MOST, MOST, ENOUGH), 0, LEAST, 2);
        UnitDesk none = Desks.built(0, 0, false, 100);
        Check.outcome("none", none, none.run(0, LEAST, MOST, MOST, ENOUGH), 0, 0, 2);
        UnitDesk bool = Desks.built(1, 1, true, 0);
        Check.outcome("a BOOL one is taken as it is", bool, bool.run(0, LEAST, 0, 0, ENOUGH), 0, LEAST, 2);
        // The image's function has the parameters that it was linked with, whatever it is signed as since.
        two.sign(0, 0, 0, false);
        Check.outcome("signed anew", two, two.run(0, 9, 4, 0, ENOUGH), 0, 5, 4);
        two.drop(0);
        Check.outcome("dropped", two, two.run(0, 9, 3, 0, ENOUGH), 0, 6, 4);
    }

    private static void ended() {
        UnitDesk desk = Desks.built(1, 0, false, 0);
        Check.outcome("with fuel left", desk, desk.run(0, 5, 0, 0, 3), 0, 5, 2);
        Check.outcome("with the last of its fuel", desk, desk.run(0, 5, 0, 0, 2), 0, 5, 2);
        Check.outcome("giving 0", desk, desk.run(0, 0, 0, 0, 2), 0, 0, 2);
        Check.outcome("giving -1", desk, desk.run(0, -1, 0, 0, 2), 0, -1, 2);
    }

    private static void usedUp() {
        UnitDesk desk = Desks.built(1, 0, false, 0);
        Check.outcome("before the first word", desk, desk.run(0, 5, 0, 0, 0), 1, 0, 0);
        Check.outcome("before the last word", desk, desk.run(0, 5, 0, 0, 1), 1, 0, 1);
        Check.outcome("just enough", desk, desk.run(0, 5, 0, 0, 2), 0, 5, 2);
    }

    private static void belowZero() {
        UnitDesk desk = Desks.built(1, 0, false, 0);
        for (int fuel : new int[] {0, -1, -2, -1000, LEAST + 1, LEAST}) {
            Check.outcome("fuel " + fuel, desk, desk.run(0, 5, 0, 0, fuel), 1, 0, 0);
        }
    }

    /**
     * Function 6 uses 1000, function 7 one more: 15 calls of those that use 64 and 65, and 30 of its own. Those two
     * make 30 of their own, and call the one that uses 30, and one that uses 4 or 5.
     */
    private static UnitDesk thousand() {
        UnitDesk desk = new UnitDesk();
        Desks.add(desk, 1, 0, 0, false, sum(0, 100, 0, 100));
        Desks.add(desk, 2, 0, 0, false, Check.PLUS, 100, 100);
        Desks.add(desk, 3, 0, 0, false, Check.IF, Check.TRUE, 101, 101);
        Desks.add(desk, 4, 0, 0, false, sum(1, Check.call(1), 1, Check.call(2)));
        Desks.add(desk, 5, 0, 0, false, sum(1, Check.call(1), 1, Check.call(3)));
        Desks.add(desk, 6, 0, 0, false, sum(5, Check.call(4), 10, Check.call(5)));
        Desks.add(desk, 7, 0, 0, false, sum(4, Check.call(4), 11, Check.call(5)));
        Check.due("build()", desk.build(), 5 * 46 + 7 + 12);
        return desk;
    }

    /** A sum of 15: so many of one, so many of another, and zeros. */
    private static int[] sum(int first, int one, int second, int other) {
        int zeros = 15 - first - second;
        return Desks.times(14, Check.PLUS,
                Desks.times(first, one, Desks.times(second, other, Desks.times(zeros, 100))));
    }

    private static void above1000() {
        UnitDesk desk = thousand();
        Check.outcome("999 of 1000", desk, desk.run(6, 0, 0, 0, 999), 1, 0, 999);
        Check.outcome("1000 of 1000", desk, desk.run(6, 0, 0, 0, 1000), 0, 10, 1000);
        Check.outcome("1000 of 1001", desk, desk.run(7, 0, 0, 0, 1000), 1, 0, 1000);
        for (int fuel : new int[] {1001, 1002, 65536 + 5, MOST - 1, MOST}) {
            Check.outcome("fuel " + fuel + " for 1000", desk, desk.run(6, 0, 0, 0, fuel), 0, 10, 1000);
            Check.outcome("fuel " + fuel + " for 1001", desk, desk.run(7, 0, 0, 0, fuel), 1, 0, 1000);
        }
    }

    /** f(n) = IF n < 1 THEN 7 ELSE f(n - 1) stands in n + 1 frames. */
    private static void frameTooMany() {
        UnitDesk desk = Desks.one(1, 0, false, Check.IF, Check.LESS, 0, 101, 107, Check.call(0), Check.MINUS, 0, 101);
        Desks.add(desk, 1, 0, 0, false,
                Check.PLUS, Check.call(0), 110, Check.PLUS, Check.call(0), 110, Check.call(0), 110);
        Desks.add(desk, 2, 0, 0, false, Check.PLUS, Check.call(0), 110, Check.call(0), 111);
        Check.due("build() > 0", desk.build() > 0, true);
        run("one frame", desk, 0, 7, 7);
        run("11 frames", desk, 10, 7, 10 * 9 + 7);
        run("12 frames", desk, 11, 7, 11 * 9 + 7);
        Check.outcome("13 frames", desk, desk.run(0, 12, 0, 0, ENOUGH), 2, 0, 12 * 8);
        Check.outcome("many frames", desk, desk.run(0, MOST, 0, 0, ENOUGH), 2, 0, 12 * 8);
        // Frames that have ended do not count.
        Check.outcome("12 frames, three times", desk, desk.run(1, 0, 0, 0, ENOUGH), 0, 21, 3 * (2 + 97) + 3);
        Check.outcome("12 frames, then 13", desk, desk.run(2, 0, 0, 0, ENOUGH), 2, 0, (2 + 97) + 2 + 11 * 8);
        run("12 frames behind a run that ended by 2", desk, 11, 7, 11 * 9 + 7);
    }

    private static void numberTooMany() {
        UnitDesk forty = nested(13, 101);
        Check.outcome("40 numbers", forty, forty.run(3, 0, 0, 0, ENOUGH), 0, 40, 40 + 2 + 39 + 3);
        UnitDesk more = nested(13, Check.PLUS, 101, 101);
        Check.outcome("41 numbers", more, more.run(3, 0, 0, 0, ENOUGH), 3, 0, 40 + 2 + 1);
        Check.outcome("28 numbers", more, more.run(4, 0, 0, 0, ENOUGH), 0, 28, 28 + 1 + 27 + 2);
        UnitDesk argument = new UnitDesk();
        Desks.add(argument, 6, 1, 0, false, 0);
        nest(argument, 13, Check.call(6), 101);
        Check.outcome("the 41st is an argument", argument, argument.run(3, 0, 0, 0, ENOUGH), 3, 0, 40 + 3 + 1);
        UnitDesk call = new UnitDesk();
        Desks.add(call, 6, 1, 0, false, Check.call(7));
        Desks.add(call, 7, 0, 0, false, 101);
        nest(call, 13, Check.call(6), 101);
        Check.outcome("a call puts none", call, call.run(3, 0, 0, 0, ENOUGH), 3, 0, 40 + 4 + 1);
    }

    private static void numbersOfAllFrames() {
        // f() = 1 + (1 + (1 + (1 + f()))): 4 numbers in each of 10 frames are 40, the 11th frame has no room.
        UnitDesk desk = Desks.built(0, 0, false, Check.PLUS, 101, Check.PLUS, 101, Check.PLUS, 101, Check.PLUS, 101,
                Check.call(0));
        Check.outcome("40 numbers of 10 frames", desk, desk.run(0, 0, 0, 0, ENOUGH), 3, 0, 10 * 5 + 1);
        // With 3 in each of 12 frames, the frames are too many before the numbers are.
        UnitDesk less = Desks.built(0, 0, false, Check.PLUS, 101, Check.PLUS, 101, Check.PLUS, 101, Check.call(0));
        Check.outcome("36 numbers of 12 frames", less, less.run(0, 0, 0, 0, ENOUGH), 2, 0, 12 * 4);
        // Three arguments of each frame lie below its own: 3 + 12 * 3 are 39 when the 13th frame is wanted.
        UnitDesk three = Desks.built(3, 0, false, Check.call(0), 0, 1, 2);
        Check.outcome("39 numbers of 12 frames", three, three.run(0, 1, 2, 3, ENOUGH), 2, 0, 12 * 4);
        Desks.add(three, 1, 3, 0, false, Check.PLUS, 101, Check.call(0), 0, 1, 2);
        Check.due("build() > 0", three.build() > 0, true);
        Check.outcome("40 numbers of 12 frames", three, three.run(1, 1, 2, 3, ENOUGH), 2, 0, 1 + 12 * 4);
        // 2 arguments and 4 numbers in each of 9 frames are 38, and the 10th frame wants 4.
        UnitDesk four = Desks.built(2, 0, false, Check.PLUS, 0, Check.PLUS, 1, Check.call(0), 0, 1);
        Check.outcome("2 arguments and 4 a frame", four, four.run(0, 1, 2, 0, ENOUGH), 3, 0, 9 * 5 + 3);
    }

    private static void refused() {
        UnitDesk desk = Desks.busy();
        Check.changesNothing(desk, () -> {
            for (int f : Check.NO_FUNCTIONS) {
                Check.dueThrow("run of " + f, NoSuchElementException.class, () -> desk.run(f, 0, 0, 0, 9));
            }
            for (int f : new int[] {1, 2, 4, 5, 6}) {
                Check.dueThrow("run of " + f, NoSuchElementException.class, () -> desk.run(f, 0, 0, 0, 9));
                Check.dueThrow("without fuel", NoSuchElementException.class, () -> desk.run(f, 0, 0, 0, -1));
            }
        });
        Desks.add(desk, 5, 0, 0, false, 105);
        Check.dueThrow("not built", NoSuchElementException.class, () -> desk.run(5, 0, 0, 0, 9));
        desk.token(0, 0);
        Check.due("build()", desk.build(), -1);
        Check.dueThrow("not linked", NoSuchElementException.class, () -> desk.run(5, 0, 0, 0, 9));
        Check.text(desk, 0, 0);
        desk.drop(3);
        Check.outcome("in the image still", desk, desk.run(3, 0, 0, 0, 9), 0, 1, 2);
        Check.due("build()", desk.build(), 4 + 4 + 14);
        Check.outcome("linked", desk, desk.run(5, 0, 0, 0, 9), 0, 5, 2);
        Check.dueThrow("not in the image any more", NoSuchElementException.class, () -> desk.run(3, 0, 0, 0, 9));
    }

    private static void valueOfLatest() {
        UnitDesk desk = Desks.built(1, 0, false, 0);
        for (int a : new int[] {5, 0, -1, LEAST, MOST, 5}) {
            Check.outcome("gives " + a, desk, desk.run(0, a, 0, 0, 9), 0, a, 2);
            Check.due("asked again", desk.value(), a);
        }
        desk.edit(0, 0, 107);
        desk.build();
        Check.due("a build is no run", desk.value(), 5);
        desk.drop(0);
        desk.build();
        Check.due("nor is one that empties the image", desk.value(), 5);
        Check.dueThrow("a refused run", NoSuchElementException.class, () -> desk.run(0, 1, 0, 0, 9));
        Check.due("is none, either", desk.value(), 5);
    }

    private static void valueZero() {
        Check.due("before", new UnitDesk().value(), 0);
        UnitDesk desk = Desks.one(1, 0, false, 0);
        Desks.add(desk, 1, 0, 0, false, Check.call(1));
        Desks.add(desk, 2, 0, 0, false, Check.PLUS, 101, Check.PLUS, 101, Check.PLUS, 101, Check.PLUS, 101,
                Check.call(2));
        Check.due("build() > 0", desk.build() > 0, true);
        Check.due("before, behind a build", desk.value(), 0);
        for (int outcome = 1; outcome <= 3; outcome++) {
            Check.outcome("ended", desk, desk.run(0, 5, 0, 0, 9), 0, 5, 2);
            int fuel = outcome == 1 ? 1 : ENOUGH;
            Check.due("did not end", desk.run(outcome - 1, 6, 0, 0, fuel), outcome);
            Check.due("behind a run that answered " + outcome, desk.value(), 0);
        }
        Check.outcome("ended again", desk, desk.run(0, 7, 0, 0, 9), 0, 7, 2);
        Check.outcome("no fuel at all", desk, desk.run(0, 7, 0, 0, 0), 1, 0, 0);
    }

    private static void usedOfLatest() {
        UnitDesk desk = Desks.built(1, 0, false, 0);
        Check.outcome("all that it needs", desk, desk.run(0, 5, 0, 0, 900), 0, 5, 2);
        Check.due("asked again", desk.used(), 2);
        Check.outcome("all that it has", desk, desk.run(0, 5, 0, 0, 1), 1, 0, 1);
        Check.outcome("none", desk, desk.run(0, 5, 0, 0, -5), 1, 0, 0);
        Check.outcome("not added up", desk, desk.run(0, 5, 0, 0, 2), 0, 5, 2);
        desk.build();
        Check.due("a build is no run", desk.used(), 2);
        Check.dueThrow("a refused run", NoSuchElementException.class, () -> desk.run(1, 1, 0, 0, 9));
        Check.due("is none, either", desk.used(), 2);
    }

    private static void usedBefore() {
        UnitDesk desk = new UnitDesk();
        Check.due("of a new one", desk.used(), 0);
        Desks.add(desk, 0, 0, 0, false, 100);
        desk.build();
        Check.due("behind a build", desk.used(), 0);
        Check.dueThrow("a refused run", NoSuchElementException.class, () -> desk.run(1, 0, 0, 0, 9));
        Check.due("behind a refused run", desk.used(), 0);
    }
}
