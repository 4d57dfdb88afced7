import java.util.NoSuchElementException;

/** Small functions, compiled one by one into units that are kept, and linked into one image, which runs. */
public final class UnitDesk {
    private static final int FUNCTIONS = 8;
    private static final int MOST_PARAMETERS = 3;
    private static final int MOST_TOKENS = 30;
    private static final int MOST_UNITS = 3;
    private static final int MOST_WORDS = 300;
    private static final int MOST_FRAMES = 12;
    private static final int MOST_NUMBERS = 40;
    private static final int MOST_FUEL = 1000;
    // No token makes more than 4 words (IF does), and a function's end makes 2.
    private static final int CODE_ROOM = 4 * MOST_TOKENS + 2;

    private static final int TOKEN_PLUS = 3;
    private static final int TOKEN_MINUS = 4;
    private static final int TOKEN_TIMES = 5;
    private static final int TOKEN_LESS = 6;
    private static final int TOKEN_EQUAL = 7;
    private static final int TOKEN_IF = 8;
    private static final int TOKEN_TRUE = 9;
    private static final int TOKEN_FALSE = 10;
    private static final int TOKEN_CALL = 11;
    private static final int TOKEN_NUMBER = 100;

    private static final int WORD_NUMBER = 0;
    private static final int WORD_PARAMETER = 1;
    private static final int WORD_PLUS = 2;
    private static final int WORD_MINUS = 3;
    private static final int WORD_TIMES = 4;
    private static final int WORD_LESS = 5;
    private static final int WORD_EQUAL = 6;
    private static final int WORD_UNLESS = 7;
    private static final int WORD_SKIP = 8;
    private static final int WORD_CALL = 9;
    private static final int WORD_END = 10;

    private static final int NO_TYPE = -1;
    private static final int INT = 0;
    private static final int BOOL = 1;

    private static final int NO_FAULT = 0;
    private static final int FAULT_NO_TOKEN = 1;
    private static final int FAULT_TEXT_OVER = 2;
    private static final int FAULT_NO_PARAMETER = 3;
    private static final int FAULT_NO_FUNCTION = 4;
    private static final int FAULT_TYPE = 5;
    private static final int FAULT_BEHIND = 6;
    private static final int NO_PLACE = -1;

    private static final int NOT_THERE = 0;
    private static final int REUSED = 1;
    private static final int COMPILED = 2;

    private static final int COUNT_REUSED = 0;
    private static final int COUNT_COMPILED = 1;
    private static final int COUNT_BROKEN = 2;
    private static final int COUNT_ALL_REUSED = 3;
    private static final int COUNT_ALL_COMPILED = 4;
    private static final int COUNTS = 5;

    private static final int BUILD_BROKEN = -1;
    private static final int BUILD_TOO_LARGE = -2;

    private static final int GOES_ON = -1;
    private static final int ENDED = 0;
    private static final int FUEL_USED_UP = 1;
    private static final int TOO_MANY_FRAMES = 2;
    private static final int TOO_MANY_NUMBERS = 3;

    private static final int NO_ADDRESS = -1;
    private static final int NO_UNIT = -1;

    private final int[] signatures = new int[FUNCTIONS];
    private final Text[] texts = new Text[FUNCTIONS];
    private final Shelf[] shelves = new Shelf[FUNCTIONS];
    private final int[] faultKinds = new int[FUNCTIONS];
    private final int[] faultPlaces = new int[FUNCTIONS];
    private final int[] deeds = new int[FUNCTIONS];
    private final int[] counts = new int[COUNTS];
    private final Compiler compiler = new Compiler();
    private final Image image = new Image();
    private final Machine machine = new Machine();

    public UnitDesk() {
        for (int f = 0; f < FUNCTIONS; f++) {
            signatures[f] = Signature.ABSENT;
            texts[f] = new Text();
            shelves[f] = new Shelf();
            faultPlaces[f] = NO_PLACE;
        }
    }

    public void sign(int function, int parameters, int types, boolean bool) throws IllegalArgumentException {
        requireFunction(function);
        if (parameters < 0 || parameters > MOST_PARAMETERS) {
            throw new IllegalArgumentException();
        }
        signatures[function] = Signature.of(parameters, types, bool);
    }

    public void drop(int function) throws IllegalArgumentException {
        requireFunction(function);
        signatures[function] = Signature.ABSENT;
        texts[function].length = 0;
    }

    public boolean token(int function, int token) throws IllegalArgumentException, IllegalStateException {
        requireFunction(function);
        if (signatures[function] == Signature.ABSENT) {
            throw new IllegalStateException();
        }
        return texts[function].append(token);
    }

    public void edit(int function, int k, int token) throws IllegalArgumentException, NoSuchElementException {
        requireFunction(function);
        if (!texts[function].has(k)) {
            throw new NoSuchElementException();
        }
        texts[function].tokens[k] = token;
    }

    public int wipe(int function) throws IllegalArgumentException {
        requireFunction(function);
        int had = texts[function].length;
        texts[function].length = 0;
        return had;
    }

    public int build() {
        counts[COUNT_REUSED] = 0;
        counts[COUNT_COMPILED] = 0;
        counts[COUNT_BROKEN] = 0;
        for (int f = 0; f < FUNCTIONS; f++) {
            renew(f);
        }
        if (counts[COUNT_BROKEN] > 0) {
            return BUILD_BROKEN;
        }
        return image.link(signatures, shelves) ? image.length : BUILD_TOO_LARGE;
    }

    public int count(int what) throws NoSuchElementException {
        if (what < 0 || what >= COUNTS) {
            throw new NoSuchElementException();
        }
        return counts[what];
    }

    public int look(int function, int what) throws IllegalArgumentException {
        requireFunction(function);
        switch (what) {
            case 0:
                return faultKinds[function];
            case 1:
                return faultPlaces[function];
            case 2:
                return deeds[function];
            case 3:
                return shelves[function].kept;
            case 4:
                return image.addresses[function];
            default:
                throw new IllegalArgumentException();
        }
    }

    public int size() {
        return image.length;
    }

    public int word(int i) throws NoSuchElementException {
        if (!image.has(i)) {
            throw new NoSuchElementException();
        }
        return image.words[i];
    }

    public int run(int function, int a, int b, int c, int fuel) throws NoSuchElementException {
        if (!isFunction(function) || image.addresses[function] == NO_ADDRESS) {
            throw new NoSuchElementException();
        }
        machine.begin(image, function, a, b, c);
        return machine.work(image, Math.max(0, Math.min(fuel, MOST_FUEL)));
    }

    public int value() {
        return machine.result;
    }

    public int used() {
        return machine.spent;
    }

    private static boolean isFunction(int function) {
        return function >= 0 && function < FUNCTIONS;
    }

    private static void requireFunction(int function) {
        if (!isFunction(function)) {
            throw new IllegalArgumentException();
        }
    }

    private void renew(int f) {
        faultKinds[f] = NO_FAULT;
        faultPlaces[f] = NO_PLACE;
        deeds[f] = NOT_THERE;
        if (signatures[f] == Signature.ABSENT) {
            return;
        }
        int fitting = shelves[f].fitting(texts[f], f, signatures);
        if (fitting == NO_UNIT) {
            compileAnew(f);
        } else {
            shelves[f].bringToFront(fitting);
            deeds[f] = REUSED;
            counts[COUNT_REUSED]++;
            counts[COUNT_ALL_REUSED]++;
        }
    }

    private void compileAnew(int f) {
        Unit unit = shelves[f].spare();
        unit.begin(texts[f], signatures[f]);
        compiler.compile(unit, signatures);
        deeds[f] = COMPILED;
        counts[COUNT_COMPILED]++;
        counts[COUNT_ALL_COMPILED]++;
        if (compiler.faultKind == NO_FAULT) {
            shelves[f].keepSpare();
        } else {
            faultKinds[f] = compiler.faultKind;
            faultPlaces[f] = compiler.faultPlace;
            counts[COUNT_BROKEN]++;
        }
    }

    /** A signature is held in one int, so that two are the same exactly when their ints are. */
    private static final class Signature {
        static final int ABSENT = -1;
        private static final int PARAMETERS_MASK = 3;
        private static final int TYPES_SHIFT = 2;
        private static final int RESULT_SHIFT = TYPES_SHIFT + MOST_PARAMETERS;

        static int of(int parameters, int types, boolean bool) {
            // Bits of parameters that are not there must not make two signatures differ.
            int counting = types & ((1 << parameters) - 1);
            int result = bool ? BOOL : INT;
            return parameters | (counting << TYPES_SHIFT) | (result << RESULT_SHIFT);
        }

        static int parameters(int signature) {
            return signature & PARAMETERS_MASK;
        }

        static int type(int signature, int parameter) {
            return (signature >> (TYPES_SHIFT + parameter)) & 1;
        }

        static int result(int signature) {
            return (signature >> RESULT_SHIFT) & 1;
        }
    }

    private static final class Text {
        final int[] tokens = new int[MOST_TOKENS];
        int length = 0;

        boolean has(int place) {
            return place >= 0 && place < length;
        }

        boolean append(int token) {
            if (length >= MOST_TOKENS) {
                return false;
            }
            tokens[length] = token;
            length++;
            return true;
        }

        void copy(Text other) {
            length = other.length;
            for (int i = 0; i < length; i++) {
                tokens[i] = other.tokens[i];
            }
        }

        boolean matches(Text other) {
            if (length != other.length) {
                return false;
            }
            for (int i = 0; i < length; i++) {
                if (tokens[i] != other.tokens[i]) {
                    return false;
                }
            }
            return true;
        }
    }

    /** What compiling a text gives; a CALL in its code has the function's number where the image has the address. */
    private static final class Unit {
        final Text text = new Text();
        final int[] called = new int[FUNCTIONS];
        final int[] code = new int[CODE_ROOM];
        int signature = Signature.ABSENT;
        int length = 0;

        void begin(Text source, int own) {
            text.copy(source);
            signature = own;
            length = 0;
            for (int f = 0; f < FUNCTIONS; f++) {
                called[f] = Signature.ABSENT;
            }
        }

        boolean fits(Text now, int function, int[] signatures) {
            if (signature != signatures[function] || !text.matches(now)) {
                return false;
            }
            for (int f = 0; f < FUNCTIONS; f++) {
                if (called[f] != Signature.ABSENT && called[f] != signatures[f]) {
                    return false;
                }
            }
            return true;
        }

        void put(int operation) {
            if (length < CODE_ROOM) {
                code[length] = operation;
                length++;
            }
        }

        void put(int operation, int operand) {
            if (length + 1 < CODE_ROOM) {
                code[length] = operation;
                code[length + 1] = operand;
                length += 2;
            }
        }

        void setOperand(int operationAt, int operand) {
            int at = operationAt + 1;
            if (at >= 0 && at < length) {
                code[at] = operand;
            }
        }
    }

    /** The units of one function, the one used latest in front; the one behind those kept is free to compile into. */
    private static final class Shelf {
        final Unit[] units = new Unit[MOST_UNITS + 1];
        int kept = 0;

        Shelf() {
            for (int i = 0; i <= MOST_UNITS; i++) {
                units[i] = new Unit();
            }
        }

        int fitting(Text text, int function, int[] signatures) {
            for (int i = 0; i < kept; i++) {
                if (units[i].fits(text, function, signatures)) {
                    return i;
                }
            }
            return NO_UNIT;
        }

        Unit latest() {
            return units[0];
        }

        Unit spare() {
            return units[kept];
        }

        void keepSpare() {
            bringToFront(kept);
            // When all places are taken, the unit used least lately has just become the spare one.
            kept = Math.min(kept + 1, MOST_UNITS);
        }

        void bringToFront(int index) {
            Unit unit = units[index];
            for (int i = index; i > 0; i--) {
                units[i] = units[i - 1];
            }
            units[0] = unit;
        }
    }

    /** Reads a unit's text from the front and writes its code, up to the first fault. */
    private static final class Compiler {
        int faultKind = NO_FAULT;
        int faultPlace = NO_PLACE;
        private int place = 0;

        void compile(Unit unit, int[] signatures) {
            faultKind = NO_FAULT;
            faultPlace = NO_PLACE;
            place = 0;
            if (!part(unit, signatures, Signature.result(unit.signature), 0)) {
                return;
            }
            if (unit.text.has(place)) {
                fault(FAULT_BEHIND, place);
                return;
            }
            unit.put(WORD_END, Signature.parameters(unit.signature));
        }

        private int fault(int kind, int at) {
            faultKind = kind;
            faultPlace = at;
            return NO_TYPE;
        }

        private boolean part(Unit unit, int[] signatures, int wanted, int depth) {
            int first = place;
            int type = expression(unit, signatures, depth);
            if (type == NO_TYPE) {
                return false;
            }
            if (type != wanted) {
                fault(FAULT_TYPE, first);
                return false;
            }
            return true;
        }

        private int expression(Unit unit, int[] signatures, int depth) {
            // Every level has read a token of its own, so a text is over before the depth can pass its limit.
            if (!unit.text.has(place) || depth > MOST_TOKENS) {
                return fault(FAULT_TEXT_OVER, place);
            }
            int token = unit.text.tokens[place];
            if (isNone(token)) {
                return fault(FAULT_NO_TOKEN, place);
            }
            if (token < TOKEN_PLUS) {
                return parameter(unit, token);
            }
            if (token < TOKEN_IF) {
                return calculation(unit, signatures, token, depth);
            }
            if (token == TOKEN_IF) {
                return choice(unit, signatures, depth);
            }
            if (token <= TOKEN_FALSE) {
                return constant(unit, token == TOKEN_TRUE ? 1 : 0, BOOL);
            }
            if (token < TOKEN_NUMBER) {
                return call(unit, signatures, token - TOKEN_CALL, depth);
            }
            return constant(unit, token - TOKEN_NUMBER, INT);
        }

        private static boolean isNone(int token) {
            return token < 0 || (token >= TOKEN_CALL + FUNCTIONS && token < TOKEN_NUMBER);
        }

        private int constant(Unit unit, int number, int type) {
            place++;
            unit.put(WORD_NUMBER, number);
            return type;
        }

        private int parameter(Unit unit, int k) {
            if (k >= Signature.parameters(unit.signature)) {
                return fault(FAULT_NO_PARAMETER, place);
            }
            place++;
            unit.put(WORD_PARAMETER, k);
            return Signature.type(unit.signature, k);
        }

        private int calculation(Unit unit, int[] signatures, int token, int depth) {
            place++;
            if (!part(unit, signatures, INT, depth + 1) || !part(unit, signatures, INT, depth + 1)) {
                return NO_TYPE;
            }
            unit.put(operationOf(token));
            return token == TOKEN_LESS || token == TOKEN_EQUAL ? BOOL : INT;
        }

        private static int operationOf(int token) {
            switch (token) {
                case TOKEN_PLUS:
                    return WORD_PLUS;
                case TOKEN_MINUS:
                    return WORD_MINUS;
                case TOKEN_TIMES:
                    return WORD_TIMES;
                case TOKEN_LESS:
                    return WORD_LESS;
                default:
                    return WORD_EQUAL;
            }
        }

        private int choice(Unit unit, int[] signatures, int depth) {
            place++;
            if (!part(unit, signatures, BOOL, depth + 1)) {
                return NO_TYPE;
            }
            int unlessAt = unit.length;
            unit.put(WORD_UNLESS, 0);
            int type = expression(unit, signatures, depth + 1);
            if (type == NO_TYPE) {
                return NO_TYPE;
            }
            int skipAt = unit.length;
            unit.put(WORD_SKIP, 0);
            int thirdAt = unit.length;
            if (!part(unit, signatures, type, depth + 1)) {
                return NO_TYPE;
            }
            // The unless leads over the second code and the skip's own two words: just as far as the two lie apart.
            unit.setOperand(unlessAt, skipAt - unlessAt);
            unit.setOperand(skipAt, unit.length - thirdAt);
            return type;
        }

        private int call(Unit unit, int[] signatures, int function, int depth) {
            int signature = signatures[function];
            if (signature == Signature.ABSENT) {
                return fault(FAULT_NO_FUNCTION, place);
            }
            place++;
            unit.called[function] = signature;
            for (int k = 0; k < Signature.parameters(signature); k++) {
                if (!part(unit, signatures, Signature.type(signature, k), depth + 1)) {
                    return NO_TYPE;
                }
            }
            unit.put(WORD_CALL, function);
            return Signature.result(signature);
        }
    }

    /** The linked codes; it stands for itself, whatever became of the functions since. */
    private static final class Image {
        final int[] words = new int[MOST_WORDS];
        final int[] addresses = new int[FUNCTIONS];
        final int[] parameters = new int[FUNCTIONS];
        int length = 0;

        Image() {
            for (int f = 0; f < FUNCTIONS; f++) {
                addresses[f] = NO_ADDRESS;
            }
        }

        boolean has(int i) {
            return i >= 0 && i < length;
        }

        int at(int i) {
            return has(i) ? words[i] : 0;
        }

        boolean link(int[] signatures, Shelf[] shelves) {
            int total = 0;
            for (int f = 0; f < FUNCTIONS; f++) {
                total += signatures[f] == Signature.ABSENT ? 0 : shelves[f].latest().length;
            }
            if (total > MOST_WORDS) {
                return false;
            }
            length = total;
            // A function may call one behind it, so all addresses are given before the first code is copied.
            giveAddresses(signatures, shelves);
            for (int f = 0; f < FUNCTIONS; f++) {
                if (addresses[f] != NO_ADDRESS) {
                    copyCode(shelves[f].latest(), addresses[f]);
                }
            }
            return true;
        }

        private void giveAddresses(int[] signatures, Shelf[] shelves) {
            int next = 0;
            for (int f = 0; f < FUNCTIONS; f++) {
                addresses[f] = NO_ADDRESS;
                parameters[f] = 0;
                if (signatures[f] != Signature.ABSENT) {
                    addresses[f] = next;
                    parameters[f] = Signature.parameters(signatures[f]);
                    next += shelves[f].latest().length;
                }
            }
        }

        private void copyCode(Unit unit, int address) {
            boolean isOperand = false;
            int operation = WORD_END;
            for (int i = 0; i < unit.length && has(address + i); i++) {
                int word = unit.code[i];
                if (isOperand) {
                    words[address + i] = operation == WORD_CALL && isFunction(word) ? addresses[word] : word;
                    isOperand = false;
                } else {
                    words[address + i] = word;
                    operation = word;
                    isOperand = hasOperand(word);
                }
            }
        }

        static boolean hasOperand(int operation) {
            return operation < WORD_PLUS || operation > WORD_EQUAL;
        }

        int parametersAt(int address) {
            for (int f = 0; f < FUNCTIONS; f++) {
                if (addresses[f] == address) {
                    return parameters[f];
                }
            }
            return 0;
        }
    }

    /** Runs functions of the image; its rows are made once and used by every run. */
    private static final class Machine {
        int result = 0;
        int spent = 0;
        private final int[] stack = new int[MOST_NUMBERS];
        private final int[] bases = new int[MOST_FRAMES];
        private final int[] returns = new int[MOST_FRAMES];
        private int height = 0;
        private int frames = 0;
        private int next = 0;

        void begin(Image image, int function, int a, int b, int c) {
            int parameters = image.parameters[function];
            stack[0] = a;
            stack[1] = b;
            stack[2] = c;
            height = parameters;
            frames = 0;
            openFrame(image.addresses[function], parameters, 0);
        }

        int work(Image image, int fuel) {
            int outcome = GOES_ON;
            for (spent = 0; spent < fuel && outcome == GOES_ON; spent++) {
                outcome = step(image);
            }
            result = outcome == ENDED ? stack[0] : 0;
            return outcome == GOES_ON ? FUEL_USED_UP : outcome;
        }

        private int step(Image image) {
            int operation = image.at(next);
            int operand = image.at(next + 1);
            next += Image.hasOperand(operation) ? 2 : 1;
            switch (operation) {
                case WORD_NUMBER:
                    return push(operand);
                case WORD_PARAMETER:
                    return push(argument(operand));
                case WORD_UNLESS:
                    next += pop() == 0 ? operand : 0;
                    return GOES_ON;
                case WORD_SKIP:
                    next += operand;
                    return GOES_ON;
                case WORD_CALL:
                    return openFrame(operand, image.parametersAt(operand), next);
                case WORD_END:
                    return closeFrame();
                default:
                    return calculate(operation);
            }
        }

        private int push(int number) {
            if (height >= MOST_NUMBERS) {
                return TOO_MANY_NUMBERS;
            }
            stack[height] = number;
            height++;
            return GOES_ON;
        }

        private int pop() {
            if (height <= 0) {
                return 0;
            }
            height--;
            return stack[height];
        }

        private int argument(int k) {
            int at = frames > 0 ? bases[frames - 1] + k : 0;
            return at >= 0 && at < height ? stack[at] : 0;
        }

        private int openFrame(int address, int parameters, int returnTo) {
            if (frames >= MOST_FRAMES) {
                return TOO_MANY_FRAMES;
            }
            bases[frames] = height - parameters;
            returns[frames] = returnTo;
            frames++;
            next = address;
            return GOES_ON;
        }

        private int closeFrame() {
            int top = pop();
            if (frames <= 0) {
                return ENDED;
            }
            frames--;
            height = Math.max(0, bases[frames]);
            next = returns[frames];
            push(top);
            return frames == 0 ? ENDED : GOES_ON;
        }

        private int calculate(int operation) {
            int second = pop();
            int first = pop();
            switch (operation) {
                case WORD_PLUS:
                    return push(first + second);
                case WORD_MINUS:
                    return push(first - second);
                case WORD_TIMES:
                    return push(first * second);
                case WORD_LESS:
                    return push(first < second ? 1 : 0);
                default:
                    return push(first == second ? 1 : 0);
            }
        }
    }
}
