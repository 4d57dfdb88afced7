import java.util.NoSuchElementException;

/** Promises 7 to 11: units, what a build does and tells, and the image. */
public final class BuildTest {
    public static void main(String[] args) {
        codes();
        addresses();
        reuseByText();
        reuseBySignature();
        reuseByCalledSignature();
        threeUnits();
        usedIsLatest();
        brokenKeepsUnits();
        brokenStillUses();
        tooManyWords();
        imageStays();
        linkLeavesUnitsAlone();
        wrongAsks();
        Check.end();
    }

    private static void code(String what, UnitDesk desk, int... words) {
        Check.due(what + ": build()", desk.build(), words.length);
        Check.image(what, desk, words);
    }

    private static void codes() {
        code("number", Desks.one(0, 0, false, 142), 0, 42, 10, 0);
        code("greatest number", Desks.one(0, 0, false, Integer.MAX_VALUE), 0, Integer.MAX_VALUE - 100, 10, 0);
        code("TRUE", Desks.one(0, 0, true, Check.TRUE), 0, 1, 10, 0);
        code("FALSE", Desks.one(1, 0, true, Check.FALSE), 0, 0, 10, 1);
        code("parameter", Desks.one(3, 0, false, 2), 1, 2, 10, 3);
        code("+", Desks.one(2, 0, false, Check.PLUS, 0, 1), 1, 0, 1, 1, 2, 10, 2);
        code("-", Desks.one(2, 0, false, Check.MINUS, 0, 1), 1, 0, 1, 1, 3, 10, 2);
        code("*", Desks.one(2, 0, false, Check.TIMES, 0, 1), 1, 0, 1, 1, 4, 10, 2);
        code("<", Desks.one(2, 0, true, Check.LESS, 0, 1), 1, 0, 1, 1, 5, 10, 2);
        code("=", Desks.one(2, 0, true, Check.EQUAL, 0, 1), 1, 0, 1, 1, 6, 10, 2);
        code("IF", Desks.one(1, 1, false, Check.IF, 0, Check.PLUS, 101, 102, 103),
                1, 0, 7, 7, 0, 1, 0, 2, 2, 8, 2, 0, 3, 10, 1);
        code("IF in IF", Desks.one(1, 1, true, Check.IF, Check.IF, 0, 0, 0, Check.IF, 0, 0, 0, Check.LESS, 100, 101),
                1, 0, 7, 4, 1, 0, 8, 2, 1, 0, 7, 12, 1, 0, 7, 4, 1, 0, 8, 2, 1, 0, 8, 5, 0, 0, 0, 1, 5, 10, 1);
        code("CALL of itself", Desks.one(2, 1, false, Check.call(0), Check.TRUE, 1), 0, 1, 1, 1, 9, 0, 10, 2);
    }

    private static void addresses() {
        UnitDesk desk = new UnitDesk();
        desk.sign(6, 0, 0, false);
        Check.text(desk, 6, Check.call(4), Check.call(1));
        desk.sign(1, 0, 0, false);
        Check.text(desk, 1, Check.call(6));
        desk.sign(4, 1, 0, false);
        Check.text(desk, 4, Check.PLUS, 0, 109);
        code("addresses", desk, 9, 11, 10, 0, 1, 0, 0, 9, 2, 10, 1, 9, 0, 9, 4, 10, 0);
        Check.look("addresses", desk, 1, 0, -1, 2, 1, 0);
        Check.look("addresses", desk, 4, 0, -1, 2, 1, 4);
        Check.look("addresses", desk, 6, 0, -1, 2, 1, 11);
        Check.look("addresses", desk, 0, 0, -1, 0, 0, -1);
        desk.sign(0, 0, 0, true);
        Check.text(desk, 0, Check.TRUE);
        code("one in front moves all others, which are not compiled again", desk,
                0, 1, 10, 0, 9, 15, 10, 0, 1, 0, 0, 9, 2, 10, 1, 9, 4, 9, 8, 10, 0);
        Check.counts("one in front", desk, 3, 1, 0, 3, 4);
    }

    private static void reuseByText() {
        UnitDesk desk = Desks.one(1, 0, false, 0);
        desk.build();
        Check.counts("first", desk, 0, 1, 0, 0, 1);
        desk.build();
        Check.counts("the same", desk, 1, 0, 0, 1, 1);
        desk.edit(0, 0, 100);
        desk.build();
        Check.counts("edited", desk, 0, 1, 0, 1, 2);
        Check.text(desk, 0, Check.PLUS, 100, 100);
        desk.build();
        Check.counts("longer, the same beginning but one", desk, 0, 1, 0, 1, 3);
        Check.text(desk, 0, 0);
        Check.due("as at first", desk.build(), 4);
        Check.counts("as at first", desk, 1, 0, 0, 2, 3);
        Check.image("as at first", desk, 1, 0, 10, 1);
        desk.token(0, 0);
        Check.due("one token more", desk.build(), -1);
        Check.counts("one token more", desk, 0, 1, 1, 2, 4);
    }

    private static void reuseBySignature() {
        UnitDesk desk = Desks.one(1, 0, false, 101);
        desk.build();
        desk.sign(0, 2, 0, false);
        desk.build();
        Check.look("another count of parameters", desk, 0, 0, -1, 2, 2, 0);
        Check.image("another count of parameters", desk, 0, 1, 10, 2);
        desk.sign(0, 2, 1, false);
        desk.build();
        Check.look("another type", desk, 0, 0, -1, 2, 3, 0);
        desk.sign(0, 1, 0, false);
        desk.build();
        Check.look("the first again", desk, 0, 0, -1, 1, 3, 0);
        Check.image("the first again", desk, 0, 1, 10, 1);
        desk.sign(0, 1, 0, true);
        desk.build();
        Check.look("another result", desk, 0, 5, 0, 2, 3, 0);
    }

    private static void reuseByCalledSignature() {
        UnitDesk desk = Desks.one(0, 0, false, Check.PLUS, 100, Check.call(7), 101);
        desk.sign(7, 1, 0, false);
        Check.text(desk, 7, 105);
        desk.sign(2, 0, 0, true);
        Check.text(desk, 2, Check.TRUE);
        Check.due("build", desk.build(), 9 + 4 + 4);
        Check.text(desk, 7, 106);
        desk.build();
        Check.look("the text of a called one does not matter", desk, 0, 0, -1, 1, 1, 0);
        Check.look("the text of a called one", desk, 7, 0, -1, 2, 2, 13);
        desk.sign(7, 0, 0, false);
        Check.due("a called signature has changed", desk.build(), -1);
        Check.look("a called signature has changed", desk, 0, 6, 3, 2, 1, 0);
        desk.sign(7, 1, 1, false);
        Check.due("a called parameter's type has changed", desk.build(), -1);
        Check.look("a called parameter's type has changed", desk, 0, 5, 3, 2, 1, 0);
        desk.drop(7);
        Check.due("a called one is there no more", desk.build(), -1);
        Check.look("a called one is there no more", desk, 0, 4, 2, 2, 1, 0);
        Check.look("one that calls nothing", desk, 2, 0, -1, 1, 1, 9);
        desk.sign(7, 1, 0, false);
        Check.text(desk, 7, 106);
        Check.due("the called signature as it was", desk.build(), 17);
        Check.counts("the called signature as it was", desk, 3, 0, 0);
        desk.sign(2, 3, 7, true);
        desk.build();
        Check.look("a signature that it does not use", desk, 0, 0, -1, 1, 1, 0);
        Check.look("a signature of its own", desk, 2, 0, -1, 2, 2, 9);
    }

    private static void number(UnitDesk desk, int n, int deed, int units) {
        Check.text(desk, 0, Check.number(n));
        Check.due("build of " + n, desk.build(), 4);
        Check.look("number " + n, desk, 0, 0, -1, deed, units, 0);
        Check.image("number " + n, desk, 0, n, 10, 0);
    }

    private static void threeUnits() {
        UnitDesk desk = Desks.one(0, 0, false);
        number(desk, 1, 2, 1);
        number(desk, 2, 2, 2);
        number(desk, 3, 2, 3);
        number(desk, 4, 2, 3);
        number(desk, 2, 1, 3);
        number(desk, 3, 1, 3);
        number(desk, 4, 1, 3);
        number(desk, 1, 2, 3);
        number(desk, 2, 2, 3);
        number(desk, 4, 1, 3);
    }

    private static void usedIsLatest() {
        UnitDesk desk = Desks.one(0, 0, false);
        number(desk, 1, 2, 1);
        number(desk, 2, 2, 2);
        number(desk, 3, 2, 3);
        number(desk, 1, 1, 3);
        number(desk, 4, 2, 3);
        number(desk, 1, 1, 3);
        number(desk, 3, 1, 3);
        number(desk, 2, 2, 3);
        number(desk, 4, 2, 3);
        number(desk, 3, 1, 3);
        number(desk, 1, 2, 3);
    }

    private static void brokenKeepsUnits() {
        UnitDesk desk = Desks.one(0, 0, false);
        number(desk, 1, 2, 1);
        number(desk, 2, 2, 2);
        number(desk, 3, 2, 3);
        for (int i = 0; i < 4; i++) {
            Check.text(desk, 0, Check.PLUS, Check.number(i));
            Check.due("broken", desk.build(), -1);
            Check.look("broken", desk, 0, 2, 2, 2, 3, 0);
            Check.counts("broken", desk, 0, 1, 1);
        }
        Check.text(desk, 0, 101, 101);
        Check.due("broken behind its code", desk.build(), -1);
        number(desk, 1, 1, 3);
        number(desk, 2, 1, 3);
        number(desk, 3, 1, 3);
        Check.counts("of all builds", desk, 1, 0, 0, 3, 8);
    }

    /** A function's unit is used in a build although another function breaks it. */
    private static void brokenStillUses() {
        UnitDesk desk = Desks.one(0, 0, false);
        number(desk, 1, 2, 1);
        number(desk, 2, 2, 2);
        number(desk, 3, 2, 3);
        desk.sign(5, 0, 0, false);
        Check.text(desk, 0, 101);
        Check.due("another is broken", desk.build(), -1);
        Check.look("another is broken", desk, 0, 0, -1, 1, 3, 0);
        Check.look("which one", desk, 5, 2, 0, 2, 0, -1);
        Check.text(desk, 0, 104);
        Check.due("another is broken", desk.build(), -1);
        Check.look("another is broken", desk, 0, 0, -1, 2, 3, 0);
        Check.counts("another is broken", desk, 0, 2, 1);
        desk.drop(5);
        number(desk, 1, 1, 3);
        number(desk, 3, 1, 3);
        number(desk, 4, 1, 3);
        number(desk, 2, 2, 3);
    }

    /** 7 IFs, 15 leaves and 8 calls of function 1 make 30 tokens and 74 words and the end's 2. */
    private static int[] large() {
        int[] tokens = new int[30];
        for (int i = 0; i < 30; i++) {
            tokens[i] = i < 8 ? Check.call(1) : Check.TRUE;
        }
        for (int i = 8; i < 29; i += 3) {
            tokens[i] = Check.IF;
        }
        return tokens;
    }

    private static void tooManyWords() {
        UnitDesk desk = new UnitDesk();
        for (int f = 1; f < 5; f++) {
            desk.sign(f, 1, 1, true);
            Check.text(desk, f, f == 4 ? new int[] {0} : large());
        }
        Check.due("3 large ones and a small one", desk.build(), 3 * 76 + 4);
        // 24 calls around a parameter make 50 words, and the end 2.
        int[] calls = new int[25];
        for (int i = 0; i < 24; i++) {
            calls[i] = Check.call(1);
        }
        Check.text(desk, 4, calls);
        desk.sign(5, 0, 0, false);
        desk.sign(6, 0, 0, false);
        desk.sign(7, 0, 0, false);
        Check.text(desk, 5, Check.PLUS, 100, 100);
        Check.text(desk, 6, Check.PLUS, 100, 100);
        Check.text(desk, 7, Check.call(6));
        Check.due("just less than 300 words", desk.build(), 3 * 76 + 52 + 7 + 7 + 4);
        int before = desk.size();
        desk.sign(7, 1, 0, false);
        Check.text(desk, 7, Check.PLUS, Check.call(6), 0);
        Check.due("3 * 76 + 52 + 3 * 7, one more than 300", desk.build(), -2);
        Check.due("the image stays", desk.size(), before);
        Check.counts("too many words are no fault", desk, 6, 1, 0);
        Check.look("too many words are no fault", desk, 7, 0, -1, 2, 2, 294);
        Check.due("the old one runs", desk.run(7, 0, 0, 0, 9), 0);
        Check.due("its fuel", desk.used(), 6);
        Check.due("too many words again", desk.build(), -2);
        Check.counts("too many words again", desk, 7, 0, 0);
        Check.text(desk, 1, 19);
        Check.due("broken goes before too many words", desk.build(), -1);
        exactlyFull();
    }

    private static void exactlyFull() {
        UnitDesk desk = new UnitDesk();
        for (int f = 0; f < 8; f++) {
            desk.sign(f, 1, 1, true);
            int calls = f < 6 ? 16 : 17;
            for (int i = 0; i < calls; i++) {
                desk.token(f, Check.call(f));
            }
            desk.token(f, 0);
        }
        Check.due("6 * 36 + 2 * 38", desk.build(), 292);
        for (int f = 0; f < 4; f++) {
            desk.edit(f, 16, Check.call(f));
            desk.token(f, 0);
        }
        Check.due("exactly 300 words", desk.build(), 300);
        Check.due("the last word", desk.word(299), 1);
        Check.dueThrow("none behind it", NoSuchElementException.class, () -> desk.word(300));
        desk.edit(4, 16, Check.call(4));
        desk.token(4, 0);
        Check.due("302 words", desk.build(), -2);
        Check.due("the image stays", desk.size(), 300);
    }

    private static void imageStays() {
        UnitDesk desk = Desks.one(1, 0, false, 0);
        desk.sign(1, 0, 0, false);
        Check.text(desk, 1, Check.call(0), 107);
        code("at first", desk, 1, 0, 10, 1, 0, 7, 9, 0, 10, 0);
        desk.sign(0, 3, 0, true);
        Check.text(desk, 0, 19);
        Check.image("text and signature change no image", desk, 1, 0, 10, 1, 0, 7, 9, 0, 10, 0);
        Check.due("broken", desk.build(), -1);
        Check.image("broken", desk, 1, 0, 10, 1, 0, 7, 9, 0, 10, 0);
        Check.look("its address stays", desk, 0, 1, 0, 2, 1, 0);
        Check.look("its address stays", desk, 1, 2, 2, 2, 1, 4);
        Check.due("the old one runs", desk.run(1, 0, 0, 0, 10), 0);
        Check.due("the old one runs", desk.value(), 7);
        Check.due("with the parameters it had", desk.run(0, 5, 6, 7, 10), 0);
        Check.due("with the parameters it had", desk.value(), 5);
        desk.drop(0);
        desk.drop(1);
        Check.due("nothing is there", desk.build(), 0);
        Check.image("an empty image", desk);
        Check.look("an empty image", desk, 0, 0, -1, 0, 1, -1);
    }

    /** The same unit is linked at one address after the other. */
    private static void linkLeavesUnitsAlone() {
        UnitDesk desk = new UnitDesk();
        desk.sign(3, 0, 0, false);
        Check.text(desk, 3, Check.call(3));
        code("alone", desk, 9, 0, 10, 0);
        desk.sign(1, 0, 0, false);
        Check.text(desk, 1, 109);
        code("behind another", desk, 0, 9, 10, 0, 9, 4, 10, 0);
        desk.drop(1);
        code("alone again", desk, 9, 0, 10, 0);
        Check.counts("never compiled again", desk, 1, 0, 0, 2, 2);
    }

    private static void wrongAsks() {
        UnitDesk desk = Desks.one(0, 0, false, 100);
        desk.build();
        for (int what : new int[] {-1, 5, Integer.MIN_VALUE, Integer.MAX_VALUE}) {
            Check.dueThrow("count(" + what + ")", NoSuchElementException.class, () -> desk.count(what));
            Check.dueThrow("look(0, " + what + ")", IllegalArgumentException.class, () -> desk.look(0, what));
        }
        for (int f : new int[] {-1, 8, Integer.MIN_VALUE, Integer.MAX_VALUE}) {
            Check.dueThrow("look(" + f + ", 0)", IllegalArgumentException.class, () -> desk.look(f, 0));
            Check.dueThrow("look(" + f + ", 5)", IllegalArgumentException.class, () -> desk.look(f, 5));
        }
        for (int i : new int[] {-1, 4, 299, 300, Integer.MIN_VALUE, Integer.MAX_VALUE}) {
            Check.dueThrow("word(" + i + ")", NoSuchElementException.class, () -> desk.word(i));
        }
    }
}
