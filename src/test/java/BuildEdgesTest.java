import java.util.NoSuchElementException;

/** Promises 7 to 11, CODE, UNIT, FITS and TO BUILD: the edges, one test for each sentence that names one. */
public final class BuildEdgesTest {
    private static final int[] NO_WHATS = {-1, 5, 6, 256, Integer.MIN_VALUE, Integer.MAX_VALUE};

    public static void main(String[] args) {
        Check.sentence("number n: 0 n. TRUE, FALSE: 0 1, 0 0. Parameter k: 1 k.", BuildEdgesTest::leaves);
        Check.sentence("d the size of the second code plus 2, e that of the third", BuildEdgesTest::sizesOfIf);
        Check.sentence("CALL f: the codes of its arguments, then 9 and the ADDRESS of f", BuildEdgesTest::callCode);
        Check.sentence("then 10 and how many parameters it has", BuildEdgesTest::endCode);

        Check.sentence("used again as long as neither its text nor a signature that it uses has changed",
                BuildEdgesTest::usedAgain);
        Check.sentence("Each function keeps the 3 units that were used latest.", BuildEdgesTest::threeUnits);
        Check.sentence("A unit FITS if its text ..", BuildEdgesTest::fitsByText);
        Check.sentence(".. and all signatures in it, are those of now: its own", BuildEdgesTest::fitsByOwnSignature);
        Check.sentence(".. and all signatures in it, are those of now: of those that it calls",
                BuildEdgesTest::fitsByCalledSignature);

        Check.sentence("each function that is there, by its number", BuildEdgesTest::byNumber);
        Check.sentence("it is BROKEN and keeps its units as they are", BuildEdgesTest::brokenKeepsUnits);
        Check.sentence("A unit that is used is the latest of its function's; a fourth one goes.",
                BuildEdgesTest::fourthGoes);
        Check.sentence("all codes together have at most 300 words", BuildEdgesTest::atMost300);
        Check.sentence("the address of a function is where its code begins", BuildEdgesTest::addresses);
        Check.sentence("Otherwise the image stays as it is. (broken)", BuildEdgesTest::brokenLeavesImage);
        Check.sentence("Otherwise the image stays as it is. (too many words)", BuildEdgesTest::tooLargeLeavesImage);

        Check.sentence("Builds: how many words the image has", BuildEdgesTest::howManyWords);
        Check.sentence("-1 when a function is broken", BuildEdgesTest::minusOne);
        Check.sentence("-2 when there are too many words", BuildEdgesTest::minusTwo);

        Check.sentence("Of the latest build: 0 how many were reused, 1 compiled (broken ones, too), 2 broken",
                BuildEdgesTest::countsOfLatest);
        Check.sentence("3 and 4: reused and compiled of all builds", BuildEdgesTest::countsOfAll);
        Check.sentence("Throws NoSuchElementException for another what.", BuildEdgesTest::countRefused);

        Check.sentence("Of a function in the latest build", BuildEdgesTest::lookOfLatest);
        Check.sentence("0 the kind of its fault (0: none), 1 the place (-1: none)", BuildEdgesTest::lookAtFault);
        Check.sentence("2 what was done (0 it was not there, 1 reused, 2 compiled)", BuildEdgesTest::lookAtDeed);
        Check.sentence("3 how many units it keeps", BuildEdgesTest::lookAtUnits);
        Check.sentence("4 its address in the image (-1: not in it)", BuildEdgesTest::lookAtAddress);
        Check.sentence("Throws IllegalArgumentException when there is no such function or what.",
                BuildEdgesTest::lookRefused);

        Check.sentence("How many words the image has.", BuildEdgesTest::size);
        Check.sentence("Word i of the image.", BuildEdgesTest::word);
        Check.sentence("Throws NoSuchElementException when there is none.", BuildEdgesTest::wordRefused);
        Check.end();
    }

    /** A text of so many words, 4 to 62 but for 5, the end's two among them, for a function of one INT and an INT. */
    private static int[] words(int count, int self) {
        int calls = count % 2 == 0 ? (count - 4) / 2 : (count - 7) / 2;
        int[] chain = Desks.times(calls, Check.call(self), 0);
        return count % 2 == 0 ? chain : Desks.times(1, Check.PLUS, Desks.times(1, 0, chain));
    }

    private static void addWords(UnitDesk desk, int function, int count) {
        Desks.add(desk, function, 1, 0, false, words(count, function));
    }

    private static void code(String what, UnitDesk desk, int... words) {
        Check.due(what + ": build()", desk.build(), words.length);
        Check.image(what, desk, words);
    }

    private static void leaves() {
        code("least number", Desks.one(0, 0, false, 100), 0, 0, 10, 0);
        code("greatest number", Desks.one(0, 0, false, Integer.MAX_VALUE), 0, Integer.MAX_VALUE - 100, 10, 0);
        code("TRUE", Desks.one(0, 0, true, Check.TRUE), 0, 1, 10, 0);
        code("FALSE", Desks.one(0, 0, true, Check.FALSE), 0, 0, 10, 0);
        code("first parameter", Desks.one(3, 0, false, 0), 1, 0, 10, 3);
        code("last parameter", Desks.one(3, 0, false, 2), 1, 2, 10, 3);
    }

    private static void sizesOfIf() {
        code("the smallest", Desks.one(1, 1, false, Check.IF, 0, 105, 106),
                1, 0, 7, 4, 0, 5, 8, 2, 0, 6, 10, 1);
        code("odd sizes", Desks.one(1, 1, false, Check.IF, 0, Check.PLUS, 100, 101, Check.MINUS, 102, 103),
                1, 0, 7, 7, 0, 0, 0, 1, 2, 8, 5, 0, 2, 0, 3, 3, 10, 1);
        longThird();
        longSeconds();
    }

    private static void longThird() {
        int[] tokens = Desks.times(30, 101);
        tokens[0] = Check.IF;
        tokens[1] = 0;
        for (int i = 3; i < 16; i++) {
            tokens[i] = Check.PLUS;
        }
        UnitDesk desk = Desks.built(1, 1, false, tokens);
        Check.due("a leaf's size and 2", desk.word(3), 4);
        Check.due("13 signs and 14 leaves", desk.word(7), 13 + 2 * 14);
        Check.outcome("over the second", desk, desk.run(0, 0, 0, 0, 99), 0, 14, 2 + 27 + 1);
        Check.outcome("over the third", desk, desk.run(0, 1, 0, 0, 99), 0, 1, 2 + 2 + 1);
    }

    /** 9 IFs in one another's second place, 2 calls and 19 leaves: no 30 tokens make more words. */
    private static void longSeconds() {
        int[] tokens = new int[30];
        for (int i = 0; i < 9; i++) {
            tokens[2 * i] = Check.IF;
            tokens[2 * i + 1] = Check.TRUE;
        }
        for (int i = 18; i < 30; i++) {
            tokens[i] = i < 20 ? Check.call(1) : Check.FALSE;
        }
        UnitDesk desk = Desks.one(1, 1, true, tokens);
        Desks.add(desk, 1, 1, 1, true, 0);
        Check.due("the largest code", desk.build(), 80 + 4);
        int second = 6;
        for (int i = 8; i >= 0; i--) {
            Check.due("IF " + i + ", the second's size and 2", desk.word(4 * i + 3), second + 2);
            Check.due("IF " + i + ", the third's size", desk.word(4 * i + 4 + second + 1), 2);
            second += 8;
        }
    }

    private static void callCode() {
        code("no argument", Desks.one(0, 0, false, Check.call(0)), 9, 0, 10, 0);
        code("three", Desks.one(3, 2, false, Check.call(0), 2, Check.TRUE, 0), 1, 2, 0, 1, 1, 0, 9, 0, 10, 3);
        UnitDesk desk = new UnitDesk();
        Desks.add(desk, 0, 0, 0, false, Check.call(7));
        Desks.add(desk, 7, 0, 0, false, Check.call(0));
        code("of the last by the first, and back", desk, 9, 4, 10, 0, 9, 0, 10, 0);
        // A number that is a call's word, and one that is a function's number, are no calls.
        code("a number like a call", Desks.one(0, 0, false, Check.PLUS, 109, 109), 0, 9, 0, 9, 2, 10, 0);
    }

    private static void endCode() {
        for (int parameters = 0; parameters <= 3; parameters++) {
            code(parameters + " parameters", Desks.one(parameters, 0, false, 100), 0, 0, 10, parameters);
        }
    }

    private static void usedAgain() {
        UnitDesk desk = Desks.busy();
        for (int i = 0; i < 5; i++) {
            Check.due("nothing has changed", desk.build(), 25);
            Check.counts("nothing has changed", desk, 3, 0, 0);
        }
        desk.token(0, 101);
        desk.build();
        Check.look("its text is longer", desk, 0, 6, 3, 2, 1);
        Check.look("the text of one that it calls has changed", desk, 7, 0, -1, 1, 1);
        Check.text(desk, 0, Check.PLUS, 0, 101);
        desk.sign(0, 1, 0, false);
        Check.due("the same text and signature, given anew", desk.build(), 25);
        Check.counts("the same text and signature, given anew", desk, 3, 0, 0);
        desk.sign(0, 1, 0, true);
        desk.build();
        Check.look("its signature has changed", desk, 0, 5, 0, 2, 1);
        Check.look("the signature of one that it calls has changed", desk, 7, 5, 3, 2, 1);
        Check.look("what it does not use has changed", desk, 3, 0, -1, 1, 1);
    }

    private static void number(UnitDesk desk, int function, int n, int deed, int units) {
        Check.text(desk, function, Check.number(n));
        desk.build();
        Check.look("number " + n, desk, function, 0, -1, deed, units);
        Check.due("number " + n, desk.word(desk.look(function, 4) + 1), n);
    }

    private static void threeUnits() {
        UnitDesk desk = Desks.one(0, 0, false, 100);
        Desks.add(desk, 1, 0, 0, false, 100);
        for (int n = 1; n <= 3; n++) {
            number(desk, 0, n, 2, n);
        }
        number(desk, 0, 1, 1, 3);
        number(desk, 0, 2, 1, 3);
        number(desk, 0, 3, 1, 3);
        number(desk, 0, 4, 2, 3);
        number(desk, 0, 5, 2, 3);
        number(desk, 0, 3, 1, 3);
        Check.look("those of another function are its own", desk, 1, 0, -1, 1, 1);
        number(desk, 1, 3, 2, 2);
        number(desk, 0, 4, 1, 3);
        number(desk, 0, 2, 2, 3);
        number(desk, 1, 0, 1, 2);
    }

    private static void fitsByText() {
        UnitDesk desk = Desks.built(1, 0, false, Check.PLUS, 0, 101);
        for (int k = 0; k < 3; k++) {
            Check.text(desk, 0, Check.PLUS, 0, 101);
            Check.due("as it was", desk.build(), 7);
            Check.look("as it was", desk, 0, 0, -1, 1);
            desk.edit(0, k, k == 0 ? Check.MINUS : 102);
            Check.due("token " + k + " has changed", desk.build(), 7);
            Check.look("token " + k + " has changed", desk, 0, 0, -1, 2);
        }
        Check.text(desk, 0, Check.PLUS, 0);
        Check.due("the last token is missing", desk.build(), -1);
        Check.look("the last token is missing", desk, 0, 2, 2, 2, 3);
        Check.text(desk, 0, Check.PLUS, 0, 101, 101);
        Check.due("one more", desk.build(), -1);
        Check.look("one more", desk, 0, 6, 3, 2, 3);
        Check.text(desk, 0);
        Check.due("none", desk.build(), -1);
        Check.look("none", desk, 0, 2, 0, 2, 3);
        longestTextFits();
    }

    private static void longestTextFits() {
        UnitDesk desk = Desks.built(1, 0, false, Desks.times(29, Check.call(0), 0));
        desk.edit(0, 29, 100);
        desk.build();
        Check.look("the last of 30 has changed", desk, 0, 0, -1, 2, 2);
        desk.edit(0, 29, 0);
        desk.build();
        Check.look("30 as they were", desk, 0, 0, -1, 1, 2);
    }

    private static void fitsByOwnSignature() {
        UnitDesk desk = Desks.one(2, 1, false, 100);
        signed(desk, 0, 2, 1, 2);
        signed(desk, 0, 3, 1, 2);
        signed(desk, 0, 2, 1, 1);
        signed(desk, 0, 2, 0, 2);
        signed(desk, 0, 2, 1, 1);
        signed(desk, 0, 2, 3, 2);
        signed(desk, 0, 2, 1, 1);
        signed(desk, 0, 1, 1, 2);
        signed(desk, 0, 2, 1, 1);
        UnitDesk self = Desks.built(1, 0, false, Check.call(0), Check.call(0), 0);
        self.sign(0, 1, 1, true);
        Check.due("the result has changed, too", self.build(), 8);
        Check.look("the result has changed, too", self, 0, 0, -1, 2, 2);
        self.sign(0, 1, 0, false);
        Check.due("as it was", self.build(), 8);
        Check.look("as it was", self, 0, 0, -1, 1, 2);
    }

    private static void signed(UnitDesk desk, int function, int parameters, int types, int deed) {
        desk.sign(function, parameters, types, false);
        Check.due("build()", desk.build() > 0, true);
        Check.due(parameters + " parameters, types " + types, desk.look(0, 2), deed);
    }

    /** Function 0 calls 6 and, in its argument, 7; none of what they are may change. */
    private static void fitsByCalledSignature() {
        UnitDesk desk = Desks.one(0, 0, false, Check.call(6), Check.call(7));
        Desks.add(desk, 6, 1, 0, false, 100);
        Desks.add(desk, 7, 0, 0, false, 100);
        Desks.add(desk, 5, 0, 0, false, 100);
        Check.due("build()", desk.build(), 18);
        called(desk, 6, 2, 0, false, 2);
        called(desk, 6, 1, 1, false, 5);
        called(desk, 6, 1, 0, true, 5);
        called(desk, 7, 1, 0, false, 2);
        called(desk, 7, 0, 0, true, 5);
        desk.sign(5, 3, 7, false);
        Check.due("one that it does not call", desk.build(), 18);
        Check.look("one that it does not call", desk, 0, 0, -1, 1, 1);
        Check.text(desk, 6, 101);
        Check.due("the text of one that it calls", desk.build(), 18);
        Check.look("the text of one that it calls", desk, 0, 0, -1, 1, 1);
        desk.drop(7);
        desk.build();
        Check.look("one that it calls is there no more", desk, 0, 4, 1, 2, 1);
        Check.look("one that calls nothing", desk, 6, 0, -1, 1, 3);
        Desks.add(desk, 7, 0, 0, false, 102);
        Check.due("it is there again", desk.build(), 18);
        Check.look("it is there again", desk, 0, 0, -1, 1, 1);
    }

    private static void called(UnitDesk desk, int function, int parameters, int types, boolean bool, int kind) {
        String what = function + " has " + parameters + " parameters, types " + types + ", bool " + bool;
        desk.sign(function, parameters, types, bool);
        Check.due(what, desk.build(), -1);
        Check.due(what, desk.look(0, 2), 2);
        Check.due(what, desk.look(0, 0), kind);
        desk.sign(function, function == 6 ? 1 : 0, 0, false);
        Check.due("as it was", desk.build(), 18);
        Check.look("as it was", desk, 0, 0, -1, 1, 1);
    }

    private static void byNumber() {
        UnitDesk desk = new UnitDesk();
        Desks.add(desk, 7, 0, 0, false, 107);
        Desks.add(desk, 0, 0, 0, false, 100);
        Desks.add(desk, 4, 0, 0, false, 104);
        code("7, 0 and 4", desk, 0, 0, 10, 0, 0, 4, 10, 0, 0, 7, 10, 0);
        desk.drop(0);
        code("7 and 4", desk, 0, 4, 10, 0, 0, 7, 10, 0);
        Check.counts("7 and 4", desk, 2, 0, 0);
    }

    private static void brokenKeepsUnits() {
        UnitDesk desk = Desks.one(0, 0, false);
        Check.due("an empty one", desk.build(), -1);
        Check.look("it had none", desk, 0, 2, 0, 2, 0, -1);
        number(desk, 0, 1, 2, 1);
        number(desk, 0, 2, 2, 2);
        number(desk, 0, 3, 2, 3);
        for (int[] tokens : new int[][] {{-1}, {}, {0}, {Check.call(7)}, {Check.TRUE}, {101, 101}}) {
            Check.text(desk, 0, tokens);
            Check.due("broken", desk.build(), -1);
            Check.look("a broken one is compiled, not kept", desk, 0, desk.look(0, 0), desk.look(0, 1), 2, 3, 0);
            Check.due("broken again", desk.build(), -1);
            Check.due("it is compiled again", desk.look(0, 2), 2);
        }
        // A 13th time, so that an order turned by each of them would not have come back to what it was.
        Check.due("broken once more", desk.build(), -1);
        // The oldest is the oldest still: it is the one that goes.
        number(desk, 0, 4, 2, 3);
        number(desk, 0, 2, 1, 3);
        number(desk, 0, 3, 1, 3);
        number(desk, 0, 1, 2, 3);
    }

    private static void fourthGoes() {
        UnitDesk desk = Desks.one(0, 0, false);
        number(desk, 0, 1, 2, 1);
        number(desk, 0, 2, 2, 2);
        number(desk, 0, 3, 2, 3);
        number(desk, 0, 2, 1, 3);
        number(desk, 0, 1, 1, 3);
        number(desk, 0, 4, 2, 3);
        // 3 was used before 2 and 1.
        number(desk, 0, 2, 1, 3);
        number(desk, 0, 1, 1, 3);
        number(desk, 0, 4, 1, 3);
        number(desk, 0, 3, 2, 3);
        // 2 was used before 1 and 4; a build that changes nothing, or that breaks elsewhere, uses a unit, too.
        Check.text(desk, 0, 101);
        desk.sign(7, 0, 0, false);
        Check.due("7 is broken", desk.build(), -1);
        desk.drop(7);
        number(desk, 0, 5, 2, 3);
        number(desk, 0, 1, 1, 3);
        number(desk, 0, 3, 1, 3);
        number(desk, 0, 4, 2, 3);
    }

    /** The last function gives its argument, from the image's last four words. */
    private static void atMost300() {
        for (int all = 299; all <= 302; all++) {
            UnitDesk desk = new UnitDesk();
            for (int f = 0; f < 4; f++) {
                addWords(desk, f, 62);
            }
            addWords(desk, 6, all - 4 * 62 - 4);
            addWords(desk, 7, 4);
            boolean linked = all <= 300;
            Check.due(all + " words", desk.build(), linked ? all : -2);
            Check.due(all + " words", desk.size(), linked ? all : 0);
            Check.look(all + " words", desk, 7, 0, -1, 2, 1, linked ? all - 4 : -1);
            if (linked) {
                Check.outcome(all + " words", desk, desk.run(7, 5, 0, 0, 9), 0, 5, 2);
            } else {
                Check.dueThrow(all + " words", NoSuchElementException.class, () -> desk.run(7, 5, 0, 0, 9));
            }
        }
    }

    private static void addresses() {
        UnitDesk desk = new UnitDesk();
        int[] counts = {7, 62, 8, 30, 4, 11, 62, 33};
        int begin = 0;
        for (int f = 0; f < 8; f++) {
            addWords(desk, f, counts[f]);
        }
        Check.due("build()", desk.build(), 217);
        for (int f = 0; f < 8; f++) {
            Check.due("the address of " + f, desk.look(f, 4), begin);
            begin += counts[f];
            Check.due("the last word of " + f, desk.word(begin - 1), 1);
            Check.due("the one before it", desk.word(begin - 2), 10);
        }
        Check.outcome("the last runs", desk, desk.run(7, 3, 0, 0, 1), 1, 0, 1);
    }

    private static void brokenLeavesImage() {
        UnitDesk desk = Desks.busy();
        int[] before = imageOf(desk);
        Desks.add(desk, 0, 1, 0, false, Check.MINUS, 0, 101);
        Desks.add(desk, 1, 0, 0, false, 100);
        desk.wipe(3);
        desk.drop(7);
        Check.due("build()", desk.build(), -1);
        Check.image("the words", desk, before);
        int[] addresses = {0, -1, -1, 7, -1, -1, -1, 11};
        for (int f = 0; f < 8; f++) {
            Check.due("the address of " + f, desk.look(f, 4), addresses[f]);
        }
        Check.dueThrow("a new one", NoSuchElementException.class, () -> desk.run(1, 0, 0, 0, 9));
        Check.outcome("one that is there no more", desk, desk.run(7, 5, 0, 6, 9), 0, 7, 9);
        Check.outcome("one that has changed", desk, desk.run(0, 5, 0, 6, 9), 0, 6, 4);
        Check.outcome("a broken one", desk, desk.run(3, 5, 0, 6, 9), 0, 1, 2);
    }

    private static int[] imageOf(UnitDesk desk) {
        int[] words = new int[desk.size()];
        for (int i = 0; i < words.length; i++) {
            words[i] = desk.word(i);
        }
        return words;
    }

    private static void tooLargeLeavesImage() {
        UnitDesk desk = Desks.busy();
        int[] before = imageOf(desk);
        desk.drop(3);
        for (int f = 0; f < 5; f++) {
            addWords(desk, f, 60);
        }
        Check.due("build()", desk.build(), -2);
        Check.image("the words", desk, before);
        Check.due("the address of 1", desk.look(1, 4), -1);
        Check.due("the address of 3", desk.look(3, 4), 7);
        Check.due("the address of 7", desk.look(7, 4), 11);
        Check.dueThrow("a new one", NoSuchElementException.class, () -> desk.run(1, 0, 0, 0, 9));
        Check.outcome("one of the old signature", desk, desk.run(3, 5, 0, 6, 9), 0, 1, 2);
        Check.outcome("one that calls", desk, desk.run(7, 5, 0, 6, 9), 0, 7, 9);
    }

    private static void howManyWords() {
        UnitDesk desk = new UnitDesk();
        Check.due("no function", desk.build(), 0);
        Desks.add(desk, 5, 0, 0, false, 100);
        Check.due("the smallest", desk.build(), 4);
        for (int f = 0; f < 8; f++) {
            Desks.add(desk, f, 0, 0, false, 100);
        }
        Check.due("8 of the smallest", desk.build(), 32);
        for (int f = 0; f < 8; f++) {
            desk.drop(f);
        }
        Check.due("no function again", desk.build(), 0);
        Check.due("no function again", desk.size(), 0);
    }

    private static void minusOne() {
        for (int broken = 0; broken < 8; broken++) {
            UnitDesk desk = new UnitDesk();
            for (int f = 0; f < 8; f++) {
                Desks.add(desk, f, 0, 0, false, f == broken ? 19 : 100);
            }
            Check.due(broken + " is broken", desk.build(), -1);
            Check.counts(broken + " is broken", desk, 0, 8, 1);
            desk.edit(broken, 0, 100);
            Check.due(broken + " is mended", desk.build(), 32);
            Check.counts(broken + " is mended", desk, 7, 1, 0);
        }
    }

    private static void minusTwo() {
        UnitDesk desk = new UnitDesk();
        for (int f = 0; f < 8; f++) {
            addWords(desk, f, f < 7 ? 40 : 20);
        }
        Check.due("300 words", desk.build(), 300);
        desk.sign(7, 1, 0, false);
        Check.text(desk, 7, words(21, 7));
        Check.due("301 words", desk.build(), -2);
        Check.counts("none is broken", desk, 7, 1, 0);
        Check.due("301 words again", desk.build(), -2);
        Check.counts("all are reused", desk, 8, 0, 0);
        desk.token(0, -1);
        Check.due("one is broken, and the others are too many still", desk.build(), -1);
        desk.drop(0);
        Check.due("without one", desk.build(), 261);
    }

    private static void countsOfLatest() {
        UnitDesk desk = new UnitDesk();
        for (int f = 0; f < 8; f++) {
            Desks.add(desk, f, 0, 0, false, 100);
        }
        Check.counts("before the first", desk, 0, 0, 0);
        desk.build();
        Check.counts("all compiled", desk, 0, 8, 0);
        desk.build();
        Check.counts("all reused", desk, 8, 0, 0);
        for (int f = 0; f < 8; f++) {
            desk.wipe(f);
        }
        Check.counts("before the next", desk, 8, 0, 0);
        desk.build();
        Check.counts("all broken", desk, 0, 8, 8);
        Check.text(desk, 0, 100);
        Check.text(desk, 1, 101);
        desk.build();
        Check.counts("one reused, one compiled, six broken", desk, 1, 7, 6);
        for (int f = 0; f < 8; f++) {
            desk.drop(f);
        }
        desk.build();
        Check.counts("none there", desk, 0, 0, 0);
    }

    private static void countsOfAll() {
        UnitDesk desk = Desks.one(0, 0, false, 100);
        Desks.add(desk, 1, 0, 0, false, 100);
        Check.counts("before the first", desk, 0, 0, 0, 0, 0);
        desk.build();
        Check.counts("compiled", desk, 0, 2, 0, 0, 2);
        desk.build();
        Check.counts("reused", desk, 2, 0, 0, 2, 2);
        desk.wipe(0);
        desk.build();
        Check.counts("a build of -1 and a broken one count", desk, 1, 1, 1, 3, 3);
        for (int f = 0; f < 5; f++) {
            addWords(desk, f, 62);
        }
        desk.build();
        Check.counts("a build of -2 counts", desk, 0, 5, 0, 3, 8);
        for (int f = 0; f < 5; f++) {
            desk.drop(f);
        }
        desk.build();
        Check.counts("none there", desk, 0, 0, 0, 3, 8);
    }

    private static void countRefused() {
        UnitDesk desk = Desks.busy();
        Check.changesNothing(desk, () -> {
            for (int what : NO_WHATS) {
                Check.dueThrow("count(" + what + ")", NoSuchElementException.class, () -> desk.count(what));
            }
        });
        UnitDesk fresh = new UnitDesk();
        Check.dueThrow("before a build", NoSuchElementException.class, () -> fresh.count(5));
        Check.dueThrow("before a build", NoSuchElementException.class, () -> fresh.count(-1));
    }

    private static void lookOfLatest() {
        UnitDesk desk = new UnitDesk();
        Desks.add(desk, 2, 0, 0, false, 100);
        Check.look("before the first", desk, 2, 0, -1, 0, 0, -1);
        desk.build();
        desk.edit(2, 0, -1);
        desk.sign(2, 3, 7, true);
        desk.sign(4, 0, 0, false);
        Check.look("before the next", desk, 2, 0, -1, 2, 1, 0);
        Check.look("before the next", desk, 4, 0, -1, 0, 0, -1);
        desk.build();
        desk.drop(2);
        desk.token(4, 100);
        Check.look("dropped since", desk, 2, 1, 0, 2, 1, 0);
        Check.look("mended since", desk, 4, 2, 0, 2, 0, -1);
    }

    private static void lookAtFault() {
        UnitDesk desk = new UnitDesk();
        for (int f = 0; f < 8; f++) {
            desk.sign(f, 0, 0, false);
        }
        desk.drop(6);
        int[][] texts = {{100}, {-1}, {Check.PLUS}, {2}, {Check.call(6)}, {Check.TRUE}, {}, {100, 100}};
        for (int f = 0; f < 8; f++) {
            if (f != 6) {
                Check.text(desk, f, texts[f]);
            }
        }
        Check.due("build()", desk.build(), -1);
        int[] places = {-1, 0, 1, 0, 0, 0, -1, 1};
        for (int f = 0; f < 8; f++) {
            int kind = f == 6 ? 0 : f == 7 ? 6 : f;
            Check.look("each has its own", desk, f, kind, places[f]);
        }
        for (int f = 1; f < 8; f++) {
            desk.drop(f);
        }
        Check.due("build()", desk.build(), 4);
        for (int f = 0; f < 8; f++) {
            Check.look("none is left", desk, f, 0, -1);
        }
    }

    private static void lookAtDeed() {
        UnitDesk desk = Desks.one(0, 0, false, 100);
        Check.due("before a build", desk.look(0, 2), 0);
        desk.build();
        Check.due("compiled", desk.look(0, 2), 2);
        Check.due("not there", desk.look(1, 2), 0);
        desk.build();
        Check.due("reused", desk.look(0, 2), 1);
        desk.wipe(0);
        desk.build();
        Check.due("compiled, broken", desk.look(0, 2), 2);
        desk.drop(0);
        desk.build();
        Check.due("not there any more", desk.look(0, 2), 0);
    }

    private static void lookAtUnits() {
        UnitDesk desk = Desks.one(0, 0, false);
        Check.due("before a build", desk.look(0, 3), 0);
        desk.build();
        Check.due("a broken one", desk.look(0, 3), 0);
        for (int n = 1; n <= 5; n++) {
            number(desk, 0, n, 2, Math.min(n, 3));
        }
        desk.drop(0);
        desk.build();
        Check.due("not there", desk.look(0, 3), 3);
        for (int f = 1; f < 8; f++) {
            Check.due("the others", desk.look(f, 3), 0);
        }
    }

    private static void lookAtAddress() {
        UnitDesk desk = new UnitDesk();
        for (int f = 0; f < 8; f++) {
            Check.due("no image", desk.look(f, 4), -1);
        }
        Desks.add(desk, 7, 0, 0, false, 100);
        Check.due("before the build", desk.look(7, 4), -1);
        desk.build();
        Check.due("the first of the image", desk.look(7, 4), 0);
        addWords(desk, 0, 62);
        Check.due("before the build", desk.look(0, 4), -1);
        desk.build();
        Check.due("the first of the image", desk.look(0, 4), 0);
        Check.due("behind it", desk.look(7, 4), 62);
        desk.drop(0);
        Check.due("in the image still", desk.look(0, 4), 0);
        desk.build();
        Check.due("not in it", desk.look(0, 4), -1);
        Check.due("the first again", desk.look(7, 4), 0);
    }

    private static void lookRefused() {
        UnitDesk desk = Desks.busy();
        Check.changesNothing(desk, () -> {
            for (int what : NO_WHATS) {
                Check.dueThrow("look(0, " + what + ")", IllegalArgumentException.class, () -> desk.look(0, what));
                Check.dueThrow("look(5, " + what + ")", IllegalArgumentException.class, () -> desk.look(5, what));
            }
            for (int f : Check.NO_FUNCTIONS) {
                for (int w = 0; w <= 5; w++) {
                    int what = w;
                    Check.dueThrow("look(" + f + ", " + w + ")", IllegalArgumentException.class,
                            () -> desk.look(f, what));
                }
            }
        });
    }

    private static void size() {
        UnitDesk desk = new UnitDesk();
        Check.due("no image", desk.size(), 0);
        for (int f = 0; f < 5; f++) {
            addWords(desk, f, f < 4 ? 62 : 52);
        }
        Check.due("before the build", desk.size(), 0);
        desk.build();
        Check.due("full", desk.size(), 300);
        desk.drop(0);
        Check.due("before the next", desk.size(), 300);
        desk.build();
        Check.due("less", desk.size(), 238);
        for (int f = 1; f < 5; f++) {
            desk.drop(f);
        }
        desk.build();
        Check.due("empty", desk.size(), 0);
    }

    private static void word() {
        UnitDesk desk = new UnitDesk();
        for (int f = 0; f < 5; f++) {
            addWords(desk, f, f < 4 ? 62 : 52);
        }
        desk.build();
        Check.due("the first", desk.word(0), 1);
        Check.due("the second", desk.word(1), 0);
        Check.due("a call's address", desk.word(248 + 3), 248);
        Check.due("the last but one", desk.word(298), 10);
        Check.due("the last of 300", desk.word(299), 1);
    }

    private static void wordRefused() {
        UnitDesk fresh = new UnitDesk();
        Check.dueThrow("no image", NoSuchElementException.class, () -> fresh.word(0));
        UnitDesk desk = Desks.busy();
        Check.changesNothing(desk, () -> {
            for (int i : new int[] {-1, 25, 26, 299, 300, 301, 65536, Integer.MIN_VALUE, Integer.MAX_VALUE}) {
                Check.dueThrow("word(" + i + ")", NoSuchElementException.class, () -> desk.word(i));
            }
        });
        desk.drop(7);
        desk.build();
        Check.due("the last word", desk.word(10), 0);
        Check.dueThrow("one that was there before", NoSuchElementException.class, () -> desk.word(11));
        desk.drop(0);
        desk.drop(3);
        desk.build();
        Check.dueThrow("an empty image", NoSuchElementException.class, () -> desk.word(0));
    }
}
