import java.util.ArrayList;
import java.util.HashMap;
import java.util.List;
import java.util.Map;
import java.util.Random;
import java.util.function.IntSupplier;

/** Long mixed runs of calls on an object and on the model, which must answer alike at every call. */
public final class ModelTest {
    private static final int RUNS = 4000;
    private static final int CALLS = 512;
    // What must come up often enough for the comparison to mean something.
    private static final Map<String, Integer> seen = new HashMap<>();

    private final Random random;
    private final UnitDesk desk = new UnitDesk();
    private final Model model = new Model();
    private final List<String> told = new ArrayList<>();
    private final int[] parameters = {-1, -1, -1, -1, -1, -1, -1, -1};
    private final int[] types = new int[8];
    private final boolean[] results = new boolean[8];
    private final int functions;
    private final boolean full;
    private final int leastTokens;
    private final int mostTokens;
    private boolean same = true;

    private ModelTest(int seed) {
        random = new Random(seed);
        // Short texts leave calls for many builds; full ones without slips make images that are too large.
        full = seed % 4 == 3;
        functions = full ? 8 : 1 + random.nextInt(8);
        leastTokens = full ? 20 : 1;
        mostTokens = full ? 30 : seed % 4 == 2 ? 40 : 6;
    }

    public static void main(String[] args) {
        int wrong = 0;
        for (int seed = 0; seed < RUNS && wrong < 3; seed++) {
            ModelTest test = new ModelTest(seed);
            if (!test.goes()) {
                wrong++;
                System.out.println("seed " + seed + ": " + String.join("; ", test.told));
            }
        }
        Check.due("runs that differ from the model", wrong, 0);
        for (String what : List.of("build -1", "build -2", "build words", "run 0", "run 1", "run 2", "run 3",
                "fault 1", "fault 2", "fault 3", "fault 4", "fault 5", "fault 6", "did 1", "did 2")) {
            Check.due(what + " was seen often: " + seen.getOrDefault(what, 0), seen.getOrDefault(what, 0) >= 100, true);
        }
        Check.end();
    }

    private boolean goes() {
        for (int f = 0; f < functions; f++) {
            sign(f);
        }
        while (same && told.size() < CALLS) {
            int kind = random.nextInt(100);
            if (kind < 8) {
                sign(anyFunction());
            } else if (kind < 24) {
                write(anyFunction());
            } else if (kind < 42) {
                edit();
            } else if (kind < 44) {
                int f = anyFunction();
                both("drop(" + f + ")", nothing(() -> desk.drop(f)), nothing(() -> model.drop(f)));
            } else if (kind < 66) {
                build();
            } else if (kind < 92) {
                run();
            } else {
                ask();
            }
        }
        return same;
    }

    private int both(String call, IntSupplier ours, IntSupplier due) {
        if (!same || told.size() >= CALLS) {
            return -100;
        }
        String got = answer(ours);
        String want = answer(due);
        told.add(call + " = " + got);
        if (!got.equals(want)) {
            told.add("due is " + want);
            same = false;
        }
        return got.startsWith("throws") ? -100 : Integer.parseInt(got);
    }

    private static String answer(IntSupplier call) {
        try {
            return Integer.toString(call.getAsInt());
        } catch (RuntimeException e) {
            return "throws." + e.getClass().getSimpleName();
        }
    }

    private static IntSupplier nothing(Runnable call) {
        return () -> {
            call.run();
            return 0;
        };
    }

    private static void saw(String what) {
        seen.merge(what, 1, Integer::sum);
    }

    private int anyFunction() {
        return random.nextInt(60) == 0 ? random.nextInt(5) * 4 - 8 : random.nextInt(functions);
    }

    private void sign(int f) {
        int p = random.nextInt(40) == 0 ? random.nextInt(9) - 3 : random.nextInt(4);
        int t = random.nextInt(3) == 0 ? random.nextInt() : random.nextInt(3) == 0 ? random.nextInt(8) : 0;
        boolean bool = random.nextInt(3) == 0;
        both("sign(" + f + ", " + p + ", " + t + ", " + bool + ")",
                nothing(() -> desk.sign(f, p, t, bool)), nothing(() -> model.sign(f, p, t, bool)));
        if (f >= 0 && f < 8 && p >= 0 && p <= 3) {
            parameters[f] = p;
            types[f] = t;
            results[f] = bool;
            write(f);
        }
    }

    private void token(int f, int token) {
        both("token(" + f + ", " + token + ")", () -> desk.token(f, token) ? 1 : 0,
                () -> model.token(f, token) ? 1 : 0);
    }

    private void write(int f) {
        if (random.nextInt(8) != 0) {
            both("wipe(" + f + ")", () -> desk.wipe(f), () -> model.wipe(f));
        }
        if (f < 0 || f >= 8 || parameters[f] < 0 || random.nextInt(12) == 0) {
            token(f, anyToken());
            return;
        }
        List<Integer> text = new ArrayList<>();
        expression(text, f, results[f], leastTokens + random.nextInt(mostTokens - leastTokens + 1));
        for (int token : text) {
            token(f, !full && random.nextInt(100) == 0 ? anyToken() : token);
        }
    }

    private int anyToken() {
        return random.nextInt(3) == 0 ? random.nextInt(130) - 10 : random.nextInt(19);
    }

    /** Mostly right ones, so that there is something to link and to run; room is how many tokens it may take. */
    private void expression(List<Integer> text, int f, boolean bool, int room) {
        int kind = random.nextInt(10);
        if (room <= 1) {
            leaf(text, f, bool);
        } else if (kind < 4 || room == 2) {
            invocation(text, f, bool, room - 1);
        } else if (kind < 7 && room > 3) {
            int first = 1 + random.nextInt(room - 3);
            int second = 1 + random.nextInt(room - 2 - first);
            text.add(8);
            expression(text, f, true, first);
            expression(text, f, bool, second);
            expression(text, f, bool, room - 1 - first - second);
        } else {
            int first = 1 + random.nextInt(room - 2);
            text.add(bool ? 6 + random.nextInt(2) : 3 + random.nextInt(3));
            expression(text, f, false, first);
            expression(text, f, false, room - 1 - first);
        }
    }

    private void invocation(List<Integer> text, int f, boolean bool, int room) {
        int from = random.nextInt(functions);
        for (int i = 0; i < functions; i++) {
            int g = (from + i) % functions;
            if (parameters[g] >= 0 && parameters[g] <= room && results[g] == bool) {
                text.add(11 + g);
                int left = room;
                for (int k = 0; k < parameters[g]; k++) {
                    int share = k == parameters[g] - 1 ? left : 1 + random.nextInt(left - (parameters[g] - 1 - k));
                    expression(text, f, (types[g] >> k & 1) == 1, share);
                    left -= share;
                }
                return;
            }
        }
        leaf(text, f, bool);
    }

    private void leaf(List<Integer> text, int f, boolean bool) {
        for (int k = 0; k < parameters[f]; k++) {
            if ((types[f] >> k & 1) == (bool ? 1 : 0) && random.nextInt(3) != 0) {
                text.add(k);
                return;
            }
        }
        text.add(bool ? 9 + random.nextInt(2) : 100 + random.nextInt(random.nextInt(9) == 0 ? 2000000000 : 3));
    }

    private void edit() {
        int f = anyFunction();
        int k = random.nextInt(random.nextInt(6) == 0 ? 34 : 8) - (random.nextInt(30) == 0 ? 4 : 0);
        int token = random.nextInt(2) == 0 ? 100 + random.nextInt(3) : anyToken();
        both("edit(" + f + ", " + k + ", " + token + ")",
                nothing(() -> desk.edit(f, k, token)), nothing(() -> model.edit(f, k, token)));
    }

    private void build() {
        int answer = both("build()", desk::build, model::build);
        saw(answer < 0 ? "build " + answer : "build words");
        for (int what = 0; what < 5; what++) {
            int w = what;
            both("count(" + w + ")", () -> desk.count(w), () -> model.count(w));
        }
        look(anyFunction());
        if (answer == -1 && random.nextInt(3) != 0) {
            mendBroken();
        } else if (random.nextInt(5) == 0) {
            int from = random.nextInt(Math.max(1, answer));
            for (int i = from; i < from + 12; i++) {
                word(i);
            }
        }
    }

    private void look(int f) {
        for (int what = 0; what < 5; what++) {
            int w = what;
            int got = both("look(" + f + ", " + w + ")", () -> desk.look(f, w), () -> model.look(f, w));
            saw(List.of("fault ", "place ", "did ", "keeps ", "address ").get(w) + got);
        }
    }

    /** Broken functions are written anew as one leaf, so that images come to be. */
    private void mendBroken() {
        for (int f = 0; f < functions; f++) {
            if (model.look(f, 0) != 0) {
                int g = f;
                look(f);
                both("wipe(" + f + ")", () -> desk.wipe(g), () -> model.wipe(g));
                token(f, results[f] ? 9 : 101);
            }
        }
        build();
    }

    private void word(int i) {
        both("word(" + i + ")", () -> desk.word(i), () -> model.word(i));
    }

    private void run() {
        int f = anyFunction();
        int a = random.nextInt(3) == 0 ? random.nextInt() : random.nextInt(5);
        int b = random.nextInt(3);
        int c = random.nextInt();
        int fuel = random.nextInt(3) == 0 ? random.nextInt(40) - 3 : random.nextInt(1100);
        int answer = both("run(" + f + ", " + a + ", " + b + ", " + c + ", " + fuel + ")",
                () -> desk.run(f, a, b, c, fuel), () -> model.run(f, a, b, c, fuel));
        saw("run " + answer);
        both("value()", desk::value, model::value);
        both("used()", desk::used, model::used);
    }

    private void ask() {
        int f = random.nextInt(12) - 2;
        int what = random.nextInt(8) - 1;
        both("look(" + f + ", " + what + ")", () -> desk.look(f, what), () -> model.look(f, what));
        both("count(" + what + ")", () -> desk.count(what), () -> model.count(what));
        both("size()", desk::size, model::size);
        word(random.nextInt(310) - 5);
        both("value()", desk::value, model::value);
    }
}
