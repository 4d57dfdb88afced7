import java.util.ArrayList;
import java.util.Arrays;
import java.util.LinkedHashMap;
import java.util.LinkedList;
import java.util.List;
import java.util.Map;
import java.util.NoSuchElementException;
import java.util.TreeMap;

/** The document once more, by other means: trees, maps and a run that walks the tree's own meaning of each word. */
final class Model {
    private record Signature(List<Boolean> parameters, boolean result) {
    }

    private record Unit(List<Integer> text, Signature own, Map<Integer, Signature> called, List<Object> code) {
    }

    private record Address(int function) {
    }

    private record Read(boolean bool, List<Object> code) {
    }

    private static final class Fault extends Exception {
        private static final long serialVersionUID = 1L;
        final int kind;
        final int place;

        Fault(int kind, int place) {
            this.kind = kind;
            this.place = place;
        }
    }

    private static final class Frame {
        final List<Integer> numbers = new ArrayList<>();
        final int parameters;
        int next;

        Frame(int next, List<Integer> arguments) {
            this.next = next;
            this.parameters = arguments.size();
            numbers.addAll(arguments);
        }
    }

    private final Map<Integer, Signature> signatures = new TreeMap<>();
    private final Map<Integer, List<Integer>> texts = new TreeMap<>();
    private final Map<Integer, LinkedList<Unit>> units = new TreeMap<>();
    private final int[][] looks = new int[8][3];
    private final int[] counts = new int[5];
    private final Map<Integer, Integer> addresses = new TreeMap<>();
    private final Map<Integer, Integer> parametersAt = new TreeMap<>();
    private List<Integer> image = List.of();
    private int value = 0;
    private int used = 0;

    // Of the text that is being read.
    private List<Integer> text;
    private Signature own;
    private Map<Integer, Signature> called;
    private int place;

    Model() {
        for (int f = 0; f < 8; f++) {
            texts.put(f, new ArrayList<>());
            units.put(f, new LinkedList<>());
            looks[f][1] = -1;
        }
    }

    private void demandFunction(int function) {
        if (!texts.containsKey(function)) {
            throw new IllegalArgumentException();
        }
    }

    void sign(int function, int parameters, int types, boolean bool) {
        demandFunction(function);
        if (!List.of(0, 1, 2, 3).contains(parameters)) {
            throw new IllegalArgumentException();
        }
        List<Boolean> row = new ArrayList<>();
        for (int k = 0; k < parameters; k++) {
            row.add((types >> k) % 2 != 0);
        }
        signatures.put(function, new Signature(row, bool));
    }

    void drop(int function) {
        demandFunction(function);
        signatures.remove(function);
        texts.get(function).clear();
    }

    boolean token(int function, int token) {
        demandFunction(function);
        if (!signatures.containsKey(function)) {
            throw new IllegalStateException();
        }
        return texts.get(function).size() < 30 && texts.get(function).add(token);
    }

    void edit(int function, int k, int token) {
        demandFunction(function);
        if (k < 0 || k >= texts.get(function).size()) {
            throw new NoSuchElementException();
        }
        texts.get(function).set(k, token);
    }

    int wipe(int function) {
        demandFunction(function);
        int had = texts.get(function).size();
        texts.get(function).clear();
        return had;
    }

    int build() {
        Arrays.fill(counts, 0, 3, 0);
        for (int f = 0; f < 8; f++) {
            looks[f] = new int[] {0, -1, 0};
            if (signatures.containsKey(f)) {
                buildOne(f);
            }
        }
        if (counts[2] > 0) {
            return -1;
        }
        return link();
    }

    private void buildOne(int f) {
        Unit found = null;
        for (Unit unit : units.get(f)) {
            boolean same = unit.text.equals(texts.get(f)) && unit.own.equals(signatures.get(f));
            for (int g : unit.called.keySet()) {
                same &= unit.called.get(g).equals(signatures.get(g));
            }
            found = same ? unit : found;
        }
        looks[f][2] = found != null ? 1 : 2;
        counts[found != null ? 0 : 1]++;
        counts[found != null ? 3 : 4]++;
        try {
            Unit use = found != null ? found : compile(f);
            units.get(f).remove(use);
            units.get(f).addLast(use);
            if (units.get(f).size() > 3) {
                units.get(f).removeFirst();
            }
        } catch (Fault fault) {
            counts[2]++;
            looks[f][0] = fault.kind;
            looks[f][1] = fault.place;
        }
    }

    private int link() {
        List<Object> all = new ArrayList<>();
        Map<Integer, Integer> begins = new LinkedHashMap<>();
        for (int f : signatures.keySet()) {
            begins.put(f, all.size());
            all.addAll(units.get(f).getLast().code);
        }
        if (all.size() > 300) {
            return -2;
        }
        addresses.clear();
        parametersAt.clear();
        addresses.putAll(begins);
        begins.forEach((f, at) -> parametersAt.put(at, signatures.get(f).parameters.size()));
        image = all.stream().map(w -> w instanceof Address a ? begins.get(a.function) : (Integer) w).toList();
        return image.size();
    }

    private Unit compile(int f) throws Fault {
        text = List.copyOf(texts.get(f));
        own = signatures.get(f);
        called = new TreeMap<>();
        place = 0;
        List<Object> code = new ArrayList<>(wanted(own.result));
        if (place < text.size()) {
            throw new Fault(6, place);
        }
        code.addAll(List.of(10, own.parameters.size()));
        return new Unit(text, own, called, code);
    }

    private List<Object> wanted(boolean bool) throws Fault {
        int first = place;
        Read read = read();
        if (read.bool != bool) {
            throw new Fault(5, first);
        }
        return read.code;
    }

    private Read read() throws Fault {
        if (place == text.size()) {
            throw new Fault(2, place);
        }
        int token = text.get(place);
        int at = place++;
        if (token >= 100) {
            return new Read(false, List.of(0, token - 100));
        }
        if (token < 0 || token > 18) {
            throw new Fault(1, at);
        }
        if (token <= 2) {
            if (token >= own.parameters.size()) {
                throw new Fault(3, at);
            }
            return new Read(own.parameters.get(token), List.of(1, token));
        }
        if (token == 9 || token == 10) {
            return new Read(true, List.of(0, 10 - token));
        }
        List<Object> code = new ArrayList<>();
        if (token <= 7) {
            code.addAll(wanted(false));
            code.addAll(wanted(false));
            code.add(token - 1);
            return new Read(token >= 6, code);
        }
        return token == 8 ? readIf(code) : readCall(code, token - 11, at);
    }

    private Read readIf(List<Object> code) throws Fault {
        code.addAll(wanted(true));
        Read second = read();
        List<Object> third = wanted(second.bool);
        code.addAll(List.of(7, second.code.size() + 2));
        code.addAll(second.code);
        code.addAll(List.of(8, third.size()));
        code.addAll(third);
        return new Read(second.bool, code);
    }

    private Read readCall(List<Object> code, int function, int at) throws Fault {
        Signature signature = signatures.get(function);
        if (signature == null) {
            throw new Fault(4, at);
        }
        called.put(function, signature);
        for (boolean bool : signature.parameters) {
            code.addAll(wanted(bool));
        }
        code.addAll(List.of(9, new Address(function)));
        return new Read(signature.result, code);
    }

    int count(int what) {
        if (what < 0 || what > 4) {
            throw new NoSuchElementException();
        }
        return counts[what];
    }

    int look(int function, int what) {
        demandFunction(function);
        if (what < 0 || what > 4) {
            throw new IllegalArgumentException();
        }
        return what < 3 ? looks[function][what]
                : what == 3 ? units.get(function).size() : addresses.getOrDefault(function, -1);
    }

    int size() {
        return image.size();
    }

    int word(int i) {
        if (i < 0 || i >= image.size()) {
            throw new NoSuchElementException();
        }
        return image.get(i);
    }

    /** Each frame has a stack of its own here; the numbers of all are added up where the limit is looked at. */
    int run(int function, int a, int b, int c, int fuel) {
        if (!addresses.containsKey(function)) {
            throw new NoSuchElementException();
        }
        int start = addresses.get(function);
        LinkedList<Frame> frames = new LinkedList<>();
        frames.add(new Frame(start, List.of(a, b, c).subList(0, parametersAt.get(start))));
        value = 0;
        used = 0;
        while (used < Math.min(fuel, 1000)) {
            used++;
            int answer = step(frames);
            if (answer >= 0) {
                return answer;
            }
        }
        return 1;
    }

    private int step(LinkedList<Frame> frames) {
        Frame frame = frames.getLast();
        int operation = image.get(frame.next++);
        int operand = operation >= 2 && operation <= 6 ? 0 : image.get(frame.next++);
        switch (operation) {
            case 0, 1 -> {
                if (frames.stream().mapToInt(f -> f.numbers.size()).sum() == 40) {
                    return 3;
                }
                frame.numbers.add(operation == 0 ? operand : frame.numbers.get(operand));
            }
            case 7 -> frame.next += take(frame) == 0 ? operand : 0;
            case 8 -> frame.next += operand;
            case 9 -> {
                if (frames.size() == 12) {
                    return 2;
                }
                int from = frame.numbers.size() - parametersAt.get(operand);
                List<Integer> arguments = frame.numbers.subList(from, frame.numbers.size());
                frames.add(new Frame(operand, arguments));
                arguments.clear();
            }
            case 10 -> {
                if (frame.parameters != operand) {
                    throw new AssertionError("a frame of " + frame.parameters + " ends with " + operand);
                }
                frames.removeLast();
                if (frames.isEmpty()) {
                    value = take(frame);
                    return 0;
                }
                frames.getLast().numbers.add(take(frame));
            }
            default -> calculate(frame, operation);
        }
        return -1;
    }

    private static void calculate(Frame frame, int operation) {
        int second = take(frame);
        int first = take(frame);
        frame.numbers.add(switch (operation) {
            case 2 -> first + second;
            case 3 -> first - second;
            case 4 -> first * second;
            case 5 -> first < second ? 1 : 0;
            default -> first == second ? 1 : 0;
        });
    }

    private static int take(Frame frame) {
        return frame.numbers.remove(frame.numbers.size() - 1);
    }

    int value() {
        return value;
    }

    int used() {
        return used;
    }
}
