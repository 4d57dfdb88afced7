import java.util.NoSuchElementException;

/** What the document says of an object's 512 calls: every promise holds up to the last of them. */
public final class LifeTest {
    private static final int CALLS = 512;

    public static void main(String[] args) {
        Check.sentence("An object is used for at most 512 calls (builds that reuse)", LifeTest::reusing);
        Check.sentence("An object is used for at most 512 calls (builds that compile)", LifeTest::compiling);
        Check.sentence("An object is used for at most 512 calls (builds that break)", LifeTest::breaking);
        Check.sentence("An object is used for at most 512 calls (runs)", LifeTest::running);
        Check.sentence("An object is used for at most 512 calls (refused ones)", LifeTest::refused);
        Check.sentence("after it has been made (each has 512 of its own)", LifeTest::eachItsOwn);
        Check.sentence("what later calls answer is free", LifeTest::laterCalls);
        Check.end();
    }

    private static UnitDesk eight() {
        UnitDesk desk = new UnitDesk();
        for (int f = 0; f < 8; f++) {
            desk.sign(f, 0, 0, false);
            desk.token(f, 100);
        }
        return desk;
    }

    private static void reusing() {
        UnitDesk desk = eight();
        int builds = CALLS - 16 - 2;
        for (int i = 0; i < builds; i++) {
            Check.due("build()", desk.build(), 32);
        }
        Check.due("compiled of all builds", desk.count(4), 8);
        Check.due("reused of all builds, the 512th call", desk.count(3), 8 * (builds - 1));
    }

    private static void compiling() {
        UnitDesk desk = eight();
        int builds = (CALLS - 16 - 4) / 2;
        for (int i = 1; i <= builds; i++) {
            desk.edit(7, 0, 100 + i);
            Check.due("build()", desk.build(), 32);
        }
        Check.due("compiled of all builds", desk.count(4), 7 + builds);
        Check.due("reused of all builds", desk.count(3), 7 * (builds - 1));
        Check.due("units", desk.look(7, 3), 3);
        Check.due("the last number, by the 512th call", desk.word(29), builds);
    }

    private static void breaking() {
        UnitDesk desk = eight();
        desk.build();
        desk.edit(3, 0, 19);
        int builds = CALLS - 18 - 4;
        for (int i = 0; i < builds; i++) {
            Check.due("build()", desk.build(), -1);
        }
        Check.due("compiled of all builds", desk.count(4), 8 + builds);
        Check.due("reused of all builds", desk.count(3), 7 * builds);
        desk.edit(3, 0, 100);
        Check.due("mended by the 512th call", desk.build(), 32);
    }

    /** f(n) = IF n < 1 THEN n ELSE f(n - 1) + f(n - 1): the fuel is used up 6 deep, but not 5 deep. */
    private static void running() {
        UnitDesk desk = Desks.built(1, 0, false, Check.IF, Check.LESS, 0, 101, 0,
                Check.PLUS, Check.call(0), Check.MINUS, 0, 101, Check.call(0), Check.MINUS, 0, 101);
        int runs = CALLS - 17 - 4;
        for (int i = 0; i < runs; i++) {
            Check.due("run", desk.run(0, 6, 0, 0, 1000), 1);
        }
        Check.due("run", desk.run(0, 12, 0, 0, 1000), 2);
        Check.outcome("up to the 512th call", desk, desk.run(0, 5, 0, 0, 1000), 0, 0, 31 * 14 + 32 * 7);
    }

    private static void refused() {
        UnitDesk desk = Desks.busy();
        int rounds = (CALLS - 19 - 4) / 10;
        for (int i = 0; i < rounds; i++) {
            refuseEach(desk);
        }
        Check.due("build()", desk.build(), 25);
        Check.counts("all as it was", desk, 3, 0, 0);
    }

    private static void refuseEach(UnitDesk desk) {
        Check.dueThrow("sign", IllegalArgumentException.class, () -> desk.sign(0, 4, 0, false));
        Check.dueThrow("drop", IllegalArgumentException.class, () -> desk.drop(8));
        Check.dueThrow("token", IllegalArgumentException.class, () -> { desk.token(-1, 0); });
        Check.dueThrow("token", IllegalStateException.class, () -> { desk.token(5, 0); });
        Check.dueThrow("edit", NoSuchElementException.class, () -> desk.edit(0, 3, 0));
        Check.dueThrow("wipe", IllegalArgumentException.class, () -> desk.wipe(8));
        Check.dueThrow("count", NoSuchElementException.class, () -> desk.count(5));
        Check.dueThrow("look", IllegalArgumentException.class, () -> desk.look(0, 5));
        Check.dueThrow("word", NoSuchElementException.class, () -> desk.word(25));
        Check.dueThrow("run", NoSuchElementException.class, () -> desk.run(5, 0, 0, 0, 9));
    }

    /** One object's calls are nothing to another, be it older or younger. */
    private static void eachItsOwn() {
        UnitDesk older = Desks.busy();
        UnitDesk desk = eight();
        for (int i = 16; i < CALLS; i++) {
            desk.build();
        }
        UnitDesk younger = new UnitDesk();
        Check.look("a new one", younger, 0, 0, -1, 0, 0, -1);
        Check.counts("a new one", younger, 0, 0, 0, 0, 0);
        Check.due("a new one", younger.build(), 0);
        Check.due("the older one", older.build(), 25);
        Check.counts("the older one", older, 3, 0, 0, 3, 3);
        Check.outcome("the older one", older, older.run(7, 5, 0, 6, 9), 0, 7, 9);
    }

    /** Free is what they answer; but they come back, and throw nothing that the face does not name. */
    private static void laterCalls() {
        UnitDesk desk = eight();
        for (int i = 16; i < CALLS; i++) {
            desk.build();
        }
        for (int i = 0; i < 20000; i++) {
            try {
                laterCall(desk, i % 13, i % 9, 90 + i % 40);
            } catch (IllegalArgumentException | IllegalStateException | NoSuchElementException e) {
                continue;
            }
        }
    }

    private static void laterCall(UnitDesk desk, int method, int function, int token) {
        switch (method) {
            case 0 -> desk.sign(function, token % 5, token, token % 2 == 0);
            case 1 -> desk.drop(token == 95 ? function : 8);
            case 2 -> desk.token(function, token);
            case 3 -> desk.edit(function, 0, token);
            case 4 -> desk.wipe(token == 96 ? function : 8);
            case 5 -> desk.build();
            case 6 -> desk.count(token % 6);
            case 7 -> desk.look(function, token % 6);
            case 8 -> desk.size();
            case 9 -> desk.word(token);
            case 10 -> desk.run(function, token, token, token, 1000);
            case 11 -> desk.value();
            default -> desk.used();
        }
    }
}
