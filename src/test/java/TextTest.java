import java.util.NoSuchElementException;

/** Promises 1 to 6: a new object, and what signs, drops and writes functions. */
public final class TextTest {
    public static void main(String[] args) {
        newObject();
        signWrong();
        signKeepsText();
        signTypes();
        drop();
        token();
        edit();
        wipe();
        Check.end();
    }

    private static void newObject() {
        UnitDesk desk = new UnitDesk();
        Check.image("new", desk);
        Check.counts("new", desk, 0, 0, 0, 0, 0);
        Check.due("value() of a new one", desk.value(), 0);
        Check.due("used() of a new one", desk.used(), 0);
        for (int f = 0; f < 8; f++) {
            int function = f;
            Check.look("new", desk, f, 0, -1, 0, 0, -1);
            Check.due("wipe of a new one", desk.wipe(f), 0);
            Check.dueThrow("token of a new one", IllegalStateException.class, () -> { desk.token(function, 0); });
            Check.dueThrow("run of a new one", NoSuchElementException.class, () -> desk.run(function, 0, 0, 0, 9));
        }
        Check.dueThrow("word(0) of a new one", NoSuchElementException.class, () -> desk.word(0));
        Check.due("build() of a new one", desk.build(), 0);
        Check.counts("built without a function", desk, 0, 0, 0, 0, 0);
    }

    private static void signWrong() {
        UnitDesk desk = new UnitDesk();
        desk.sign(3, 1, 0, false);
        Check.text(desk, 3, 0);
        Check.due("build", desk.build(), 4);
        for (int f : Check.NO_FUNCTIONS) {
            Check.dueThrow("sign(" + f + ")", IllegalArgumentException.class, () -> desk.sign(f, 1, 0, false));
        }
        for (int p : new int[] {-1, 4, Integer.MIN_VALUE, Integer.MAX_VALUE}) {
            Check.dueThrow("sign, parameters " + p, IllegalArgumentException.class, () -> desk.sign(3, p, 0, true));
            Check.dueThrow("sign, parameters " + p, IllegalArgumentException.class, () -> desk.sign(4, p, 0, true));
        }
        Check.due("build after wrong signs", desk.build(), 4);
        Check.look("wrong signs leave the signature", desk, 3, 0, -1, 1, 1, 0);
        Check.look("wrong signs sign nothing", desk, 4, 0, -1, 0, 0, -1);
    }

    private static void signKeepsText() {
        UnitDesk desk = new UnitDesk();
        desk.sign(7, 3, 0, false);
        Check.text(desk, 7, 2);
        Check.due("parameter 2 of 3", desk.build(), 4);
        desk.sign(7, 2, 0, false);
        Check.due("parameter 2 of 2", desk.build(), -1);
        Check.look("parameter 2 of 2", desk, 7, 3, 0, 2, 1, 0);
        desk.sign(7, 3, 4, false);
        Check.due("parameter 2 is BOOL", desk.build(), -1);
        Check.look("parameter 2 is BOOL", desk, 7, 5, 0, 2, 1, 0);
        desk.sign(7, 3, 4, true);
        Check.due("the result is BOOL, too", desk.build(), 4);
        Check.look("the result is BOOL, too", desk, 7, 0, -1, 2, 2, 0);
        Check.due("the text stayed", desk.wipe(7), 1);
    }

    private static void signTypes() {
        UnitDesk desk = new UnitDesk();
        for (int k = 0; k < 3; k++) {
            desk.sign(0, 3, 1 << k, true);
            Check.text(desk, 0, k);
            Check.due("bit " + k + " makes parameter " + k + " BOOL", desk.build(), 4);
            desk.sign(0, 3, ~(1 << k), true);
            Check.due("no other bit does", desk.build(), -1);
            Check.look("no other bit does", desk, 0, 5, 0);
        }
        desk.sign(0, 1, 0, false);
        Check.text(desk, 0, 0);
        Check.due("one INT", desk.build(), 4);
        desk.sign(0, 1, -2, false);
        Check.due("bits that do not count", desk.build(), 4);
        Check.look("bits that do not count change no signature", desk, 0, 0, -1, 1);
        desk.sign(0, 0, 0, false);
        Check.text(desk, 0, 100);
        Check.due("no parameter", desk.build(), 4);
        desk.sign(0, 0, -1, false);
        Check.due("no bit counts", desk.build(), 4);
        Check.look("no bit counts", desk, 0, 0, -1, 1);
    }

    private static void drop() {
        UnitDesk desk = new UnitDesk();
        for (int f : Check.NO_FUNCTIONS) {
            Check.dueThrow("drop(" + f + ")", IllegalArgumentException.class, () -> desk.drop(f));
        }
        desk.drop(5);
        desk.sign(5, 1, 0, false);
        Check.text(desk, 5, Check.PLUS, 0, 0);
        Check.due("build", desk.build(), 7);
        desk.drop(5);
        Check.look("a drop does not change the latest build", desk, 5, 0, -1, 2, 1, 0);
        Check.dueThrow("token behind a drop", IllegalStateException.class, () -> { desk.token(5, 0); });
        Check.dueThrow("edit behind a drop", NoSuchElementException.class, () -> desk.edit(5, 0, 0));
        Check.due("wipe behind a drop", desk.wipe(5), 0);
        Check.due("the image stays until a build", desk.run(5, 4, 0, 0, 9), 0);
        Check.due("the image stays until a build", desk.value(), 8);
        Check.due("build without it", desk.build(), 0);
        Check.look("not there, its unit stays", desk, 5, 0, -1, 0, 1, -1);
        Check.dueThrow("run", NoSuchElementException.class, () -> desk.run(5, 4, 0, 0, 9));
        desk.sign(5, 1, 0, false);
        Check.due("the text was dropped", desk.build(), -1);
        Check.look("the text was dropped", desk, 5, 2, 0, 2, 1, -1);
        Check.text(desk, 5, Check.PLUS, 0, 0);
        Check.due("the same once more", desk.build(), 7);
        Check.look("the unit that stayed is used", desk, 5, 0, -1, 1, 1, 0);
    }

    private static void token() {
        UnitDesk desk = new UnitDesk();
        for (int f : Check.NO_FUNCTIONS) {
            Check.dueThrow("token(" + f + ")", IllegalArgumentException.class, () -> { desk.token(f, 0); });
        }
        Check.dueThrow("token, not there", IllegalStateException.class, () -> { desk.token(2, 0); });
        desk.sign(2, 0, 0, false);
        int[] tokens = {-1, 19, 99, Integer.MIN_VALUE, Integer.MAX_VALUE, 0, 8, 18, 100, 101};
        for (int i = 0; i < 30; i++) {
            Check.due("token " + i, desk.token(2, tokens[i % tokens.length]), true);
        }
        Check.due("token 30", desk.token(2, 100), false);
        Check.due("token 30, which is none", desk.token(2, -5), false);
        Check.due("30 tokens", desk.wipe(2), 30);
        Check.due("token 0 again", desk.token(2, 100), true);
        desk.drop(2);
        Check.dueThrow("token behind a drop", IllegalStateException.class, () -> { desk.token(2, 100); });
    }

    private static void edit() {
        UnitDesk desk = new UnitDesk();
        for (int f : Check.NO_FUNCTIONS) {
            Check.dueThrow("edit(" + f + ")", IllegalArgumentException.class, () -> desk.edit(f, 0, 0));
        }
        Check.dueThrow("edit, not there", NoSuchElementException.class, () -> desk.edit(6, 0, 0));
        desk.sign(6, 0, 0, false);
        Check.dueThrow("edit of an empty text", NoSuchElementException.class, () -> desk.edit(6, 0, 0));
        Check.text(desk, 6, Check.PLUS, 101, 102);
        for (int k : new int[] {-1, 3, 29, 30, Integer.MIN_VALUE, Integer.MAX_VALUE}) {
            Check.dueThrow("edit, k " + k, NoSuchElementException.class, () -> desk.edit(6, k, 105));
        }
        desk.edit(6, 0, Check.MINUS);
        desk.edit(6, 2, 107);
        Check.due("build", desk.build(), 7);
        Check.image("edited", desk, 0, 1, 0, 7, 3, 10, 0);
        desk.edit(6, 1, 19);
        Check.due("edited to a token that is none", desk.build(), -1);
        Check.look("edited to a token that is none", desk, 6, 1, 1);
        desk.wipe(6);
        Check.dueThrow("edit behind a wipe", NoSuchElementException.class, () -> desk.edit(6, 0, 100));
    }

    private static void wipe() {
        UnitDesk desk = new UnitDesk();
        for (int f : Check.NO_FUNCTIONS) {
            Check.dueThrow("wipe(" + f + ")", IllegalArgumentException.class, () -> desk.wipe(f));
        }
        Check.due("wipe, not there", desk.wipe(1), 0);
        desk.sign(1, 0, 0, true);
        Check.text(desk, 1, Check.TRUE);
        desk.sign(2, 0, 0, true);
        Check.text(desk, 2, Check.FALSE);
        Check.due("build", desk.build(), 8);
        Check.due("wipe", desk.wipe(1), 1);
        Check.due("wipe again", desk.wipe(1), 0);
        Check.due("an empty text is not right", desk.build(), -1);
        Check.look("an empty text", desk, 1, 2, 0, 2, 1, 0);
        Check.look("the other one stays", desk, 2, 0, -1, 1, 1, 4);
        Check.due("it is there still", desk.token(1, Check.TRUE), true);
        Check.due("build", desk.build(), 8);
    }
}
