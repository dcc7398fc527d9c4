import java.util.Arrays;

/** A scripting language with its reader and its machine; ../shared/DOC.md says what each call does. */
public final class EmberScript {
    private static final int MOST_STEPS = 200;
    private static final int BYTES_FED = 20;

    private final Tokens tokens = new Tokens();
    private final Reader reader = new Reader(tokens);
    private final Script script = new Script();
    private final Machine machine = new Machine(script);
    /** The machine on which the calls that ask what would be try it out. */
    private final Machine spare = new Machine(script);
    private int errorPlace = -1;

    public EmberScript() {
    }

    // ---- the text

    public int feed(int a, int b, int c, int d, int e) throws IllegalStateException {
        if (!tokens.hasRoom(BYTES_FED)) {
            throw new IllegalStateException();
        }
        tokens.append(a);
        tokens.append(b);
        tokens.append(c);
        tokens.append(d);
        tokens.append(e);
        return tokens.length();
    }

    public int trim(int n) throws IllegalArgumentException {
        if (n < 0 || n > tokens.length()) {
            throw new IllegalArgumentException();
        }
        tokens.shorten(n);
        return n;
    }

    public int load() {
        int error = reader.read();
        errorPlace = error == 0 ? -1 : reader.errorPlace();
        tokens.shorten(0);
        if (error == 0) {
            script.copyFrom(reader.draft());
            machine.begin();
        }
        return error;
    }

    public int errorAt() {
        return errorPlace;
    }

    // ---- the machine

    public int run(int steps) throws IllegalArgumentException, IllegalStateException {
        needSteps(steps);
        if (!machine.canGoOn()) {
            throw new IllegalStateException();
        }
        return machine.go(steps);
    }

    public int interrupt(int word) throws IndexOutOfBoundsException, IllegalStateException {
        needWord(word);
        if (!machine.canGoOn()) {
            throw new IllegalStateException();
        }
        machine.strike(word);
        machine.go(0);
        return machine.condition();
    }

    public int setNumber(int variable, int number) throws IndexOutOfBoundsException {
        needVariable(variable);
        int before = Value.kind(machine.variable(variable));
        machine.setVariable(variable, Value.pack(Value.NUMBER, number));
        return before;
    }

    public int collect() {
        return machine.freeUnreached();
    }

    public int state() {
        return machine.condition();
    }

    public int steps() {
        return machine.stepCount();
    }

    public int frames() {
        return machine.depth();
    }

    public int place() {
        return machine.textPlace();
    }

    public int functionNow() {
        return machine.newestFunction();
    }

    public int loops() {
        return machine.loopDepth();
    }

    public boolean isGuarded() {
        return machine.hasCatch();
    }

    public int collections() {
        return machine.collectionCount();
    }

    public int freed() {
        return machine.freedCount();
    }

    // ---- functions, variables, words, prints

    public int functions() {
        return script.functionCount();
    }

    public int inputsOf(int function) throws IndexOutOfBoundsException {
        needFunction(function);
        return script.inputCount(function);
    }

    public int variablesOf(int function) throws IndexOutOfBoundsException {
        needFunction(function);
        return script.variableCount(function);
    }

    public boolean isGenerator(int function) throws IndexOutOfBoundsException {
        needFunction(function);
        return script.hasYield(function);
    }

    public int variables() {
        return script.variableCount(Script.WHOLE);
    }

    public int kindOf(int variable) throws IndexOutOfBoundsException {
        needVariable(variable);
        return Value.kind(machine.variable(variable));
    }

    public int numberOf(int variable) throws IndexOutOfBoundsException {
        needVariable(variable);
        return Value.number(machine.variable(variable));
    }

    public int words() {
        return script.wordCount();
    }

    public int printed() {
        return machine.printCount();
    }

    public int kindPrinted(int back) throws IndexOutOfBoundsException {
        needPrint(back);
        return Value.kind(machine.print(back));
    }

    public int numberPrinted(int back) throws IndexOutOfBoundsException {
        needPrint(back);
        return Value.number(machine.print(back));
    }

    public int kindThrown() throws IllegalStateException {
        needFailure();
        return Value.kind(machine.thrownValue());
    }

    public int numberThrown() throws IllegalStateException {
        needFailure();
        return Value.number(machine.thrownValue());
    }

    // ---- things

    public int things() {
        return machine.heap().count();
    }

    public boolean isThere(int thing) throws IndexOutOfBoundsException {
        if (thing < 0 || thing >= Things.MOST) {
            throw new IndexOutOfBoundsException();
        }
        return machine.heap().has(thing);
    }

    public int kindOfThing(int thing) throws IndexOutOfBoundsException {
        needThing(thing);
        return machine.heap().kind(thing);
    }

    public int functionOf(int thing) throws IndexOutOfBoundsException, IllegalArgumentException {
        needThing(thing);
        int kind = machine.heap().kind(thing);
        if (kind != Value.FUNCTION && kind != Value.GENERATOR) {
            throw new IllegalArgumentException();
        }
        return machine.heap().function(thing);
    }

    public int slots(int object) throws IndexOutOfBoundsException, IllegalArgumentException {
        needThing(object);
        needKind(object, Value.OBJECT);
        return machine.heap().slotCount(object);
    }

    public int wordIn(int object, int slot) throws IndexOutOfBoundsException, IllegalArgumentException {
        needSlot(object, slot);
        return machine.heap().slotWord(object, slot);
    }

    public int kindIn(int object, int slot) throws IndexOutOfBoundsException, IllegalArgumentException {
        needSlot(object, slot);
        return Value.kind(machine.heap().slotValue(object, slot));
    }

    public int numberIn(int object, int slot) throws IndexOutOfBoundsException, IllegalArgumentException {
        needSlot(object, slot);
        return Value.number(machine.heap().slotValue(object, slot));
    }

    public int parentOf(int object) throws IndexOutOfBoundsException, IllegalArgumentException {
        needThing(object);
        needKind(object, Value.OBJECT);
        return machine.heap().parent(object);
    }

    public int foundIn(int object, int word) throws IndexOutOfBoundsException, IllegalArgumentException {
        needThing(object);
        needWord(word);
        needKind(object, Value.OBJECT);
        return machine.heap().holder(object, word);
    }

    public boolean isLike(int object, int other) throws IndexOutOfBoundsException, IllegalArgumentException {
        needThing(object);
        needThing(other);
        needKind(object, Value.OBJECT);
        needKind(other, Value.OBJECT);
        return machine.heap().inherits(object, other);
    }

    public int stateOf(int generator) throws IndexOutOfBoundsException, IllegalArgumentException {
        needThing(generator);
        needKind(generator, Value.GENERATOR);
        return machine.heap().progress(generator);
    }

    public int refersTo(int weak) throws IndexOutOfBoundsException, IllegalArgumentException {
        needThing(weak);
        needKind(weak, Value.WEAK);
        return machine.heap().target(weak);
    }

    // ---- what is reached

    public boolean isReached(int thing) throws IndexOutOfBoundsException {
        needThing(thing);
        machine.lookAround();
        return machine.distanceSeen(thing) != Reach.NOWHERE;
    }

    public int garbage() {
        return machine.heap().count() - machine.lookAround();
    }

    public int retained(int thing) throws IndexOutOfBoundsException {
        needThing(thing);
        return machine.heldBy(thing, machine.lookAround());
    }

    public int distance(int thing) throws IndexOutOfBoundsException {
        needThing(thing);
        machine.lookAround();
        return machine.distanceSeen(thing);
    }

    public boolean reaches(int thing, int other) throws IndexOutOfBoundsException {
        needThing(thing);
        needThing(other);
        machine.lookFrom(thing);
        return machine.distanceSeen(other) != Reach.NOWHERE;
    }

    public double share() {
        int count = machine.heap().count();
        if (count <= 0) {
            return 0.0;
        }
        return (double) machine.lookAround() / (double) count;
    }

    // ---- what would be (nothing is changed)

    public int stepsToEnd(int most) throws IllegalArgumentException {
        needSteps(most);
        if (!machine.canGoOn()) {
            return 0;
        }
        spare.copyFrom(machine);
        int counted = spare.go(most);
        return spare.canGoOn() ? -1 : counted;
    }

    public int printedIn(int steps) throws IllegalArgumentException {
        needSteps(steps);
        spare.copyFrom(machine);
        spare.go(steps);
        return spare.printCount() - machine.printCount();
    }

    public int thingsIn(int steps) throws IllegalArgumentException {
        needSteps(steps);
        spare.copyFrom(machine);
        spare.go(steps);
        return spare.heap().count();
    }

    public int runsToPrint() {
        spare.copyFrom(machine);
        int silent = 0;
        for (int runs = 1; runs <= MOST_STEPS && silent < MOST_STEPS && spare.canGoOn(); runs++) {
            silent += spare.go(1);
            if (spare.printCount() > machine.printCount()) {
                return runs;
            }
        }
        return -1;
    }

    public int stateIfInterrupted(int word) throws IndexOutOfBoundsException {
        needWord(word);
        if (!machine.canGoOn()) {
            return -1;
        }
        spare.copyFrom(machine);
        spare.strike(word);
        spare.go(0);
        return spare.condition();
    }

    public long digest() {
        long sum = 2411L;
        sum = mix(sum, state());
        sum = mix(sum, steps());
        sum = mix(sum, frames());
        sum = mix(sum, place());
        sum = mix(sum, functionNow());
        sum = mix(sum, loops());
        sum = mix(sum, isGuarded() ? 1 : 0);
        sum = mix(sum, collections());
        sum = mix(sum, freed());
        sum = mix(sum, functions());
        sum = mix(sum, words());
        sum = mix(sum, printed());
        sum = mix(sum, things());
        sum = mix(sum, garbage());
        sum = mixValues(sum);
        int reached = machine.lookAround();
        for (int thing = 0; thing < Things.MOST; thing++) {
            if (machine.heap().has(thing)) {
                sum = mixThing(sum, thing, reached);
            }
        }
        return sum;
    }

    private static long mix(long sum, int value) {
        return sum * 31L + value;
    }

    private static long mixValue(long sum, long value) {
        return mix(mix(sum, Value.kind(value)), Value.number(value));
    }

    private long mixValues(long before) {
        long sum = before;
        for (int variable = 0; variable < script.variableCount(Script.WHOLE); variable++) {
            sum = mixValue(sum, machine.variable(variable));
        }
        for (int back = 0; back < Machine.KEPT_PRINTS && back < machine.printCount(); back++) {
            sum = mixValue(sum, machine.print(back));
        }
        if (machine.condition() == Machine.FAILED) {
            sum = mixValue(sum, machine.thrownValue());
        }
        return sum;
    }

    /** Mixes in a thing; the machine has looked around, and has reached so many. */
    private long mixThing(long before, int thing, int reached) {
        Things heap = machine.heap();
        int kind = heap.kind(thing);
        int distance = machine.distanceSeen(thing);
        long sum = mix(mix(before, thing), kind);
        sum = mix(mix(sum, distance > 0 ? 1 : 0), distance);
        sum = mix(sum, machine.heldBy(thing, reached));
        if (kind == Value.OBJECT) {
            sum = mix(mix(sum, heap.parent(thing)), heap.slotCount(thing));
            for (int slot = 0; slot < heap.slotCount(thing); slot++) {
                sum = mixValue(mix(sum, heap.slotWord(thing, slot)), heap.slotValue(thing, slot));
            }
        } else if (kind == Value.WEAK) {
            sum = mix(sum, heap.target(thing));
        } else {
            sum = mix(sum, heap.function(thing));
            sum = kind == Value.GENERATOR ? mix(sum, heap.progress(thing)) : sum;
        }
        return sum;
    }

    // ---- what is refused

    private void needSteps(int steps) {
        if (steps < 1 || steps > MOST_STEPS) {
            throw new IllegalArgumentException();
        }
    }

    private void needWord(int word) {
        if (word < 0 || word >= script.wordCount()) {
            throw new IndexOutOfBoundsException();
        }
    }

    private void needVariable(int variable) {
        if (variable < 0 || variable >= script.variableCount(Script.WHOLE)) {
            throw new IndexOutOfBoundsException();
        }
    }

    private void needFunction(int function) {
        if (function < 0 || function >= script.functionCount()) {
            throw new IndexOutOfBoundsException();
        }
    }

    private void needPrint(int back) {
        if (back < 0 || back >= Machine.KEPT_PRINTS || back >= machine.printCount()) {
            throw new IndexOutOfBoundsException();
        }
    }

    private void needFailure() {
        if (machine.condition() != Machine.FAILED) {
            throw new IllegalStateException();
        }
    }

    private void needThing(int thing) {
        if (thing < 0 || thing >= Things.MOST || !machine.heap().has(thing)) {
            throw new IndexOutOfBoundsException();
        }
    }

    private void needKind(int thing, int kind) {
        if (machine.heap().kind(thing) != kind) {
            throw new IllegalArgumentException();
        }
    }

    private void needSlot(int object, int slot) {
        needThing(object);
        needKind(object, Value.OBJECT);
        if (slot < 0 || slot >= machine.heap().slotCount(object)) {
            throw new IndexOutOfBoundsException();
        }
    }

    /** Values, each packed into one long: the kind in the upper half, the number in the lower one; nil is 0. */
    private static final class Value {
        static final int NIL = 0;
        static final int TRUTH = 1;
        static final int NUMBER = 2;
        static final int SYMBOL = 3;
        static final int OBJECT = 4;
        static final int FUNCTION = 5;
        static final int GENERATOR = 6;
        static final int WEAK = 7;

        private Value() {
        }

        static long pack(int kind, int number) {
            return ((long) kind << 32) | (number & 0xFFFFFFFFL);
        }

        static int kind(long value) {
            return (int) (value >>> 32);
        }

        static int number(long value) {
            return (int) value;
        }

        static boolean isNumber(long value) {
            return (int) (value >>> 32) == NUMBER;
        }

        static boolean isObject(long value) {
            return (int) (value >>> 32) == OBJECT;
        }

        static boolean isThing(long value) {
            return (int) (value >>> 32) >= OBJECT;
        }

        static boolean countsAsTrue(long value) {
            return value != 0L && value != ((long) TRUTH << 32);
        }

        static long truth(boolean is) {
            return pack(TRUTH, is ? 1 : 0);
        }
    }

    /** A row of numbers that reads 0 and takes nothing outside of its cells. */
    private static final class Row {
        private final long[] cells;

        Row(int length) {
            cells = new long[length < 0 ? 0 : length];
        }

        int at(int place) {
            return place >= 0 && place < cells.length ? (int) cells[place] : 0;
        }

        long valueAt(int place) {
            return place >= 0 && place < cells.length ? cells[place] : 0L;
        }

        void put(int place, long value) {
            if (place >= 0 && place < cells.length) {
                cells[place] = value;
            }
        }

        void fill(long value) {
            Arrays.fill(cells, value);
        }

        void copyFrom(Row other) {
            System.arraycopy(other.cells, 0, cells, 0, Math.min(cells.length, other.cells.length));
        }
    }

    /** The tape of bytes, and the tokens that were read from it. */
    private static final class Tokens {
        static final int MOST = 500;

        // A sign of one byte has this byte as its type, one with a = behind it has 128 more.
        static final int BAD = 0;
        static final int END = 1;
        static final int NAME = 2;
        static final int NUMBER = 3;
        static final int SYMBOL = 4;
        static final int WITH_EQUALS = 128;
        static final int LESS_EQUAL = WITH_EQUALS + '<';
        static final int MORE_EQUAL = WITH_EQUALS + '>';
        static final int SAME = WITH_EQUALS + '=';
        static final int OTHER = WITH_EQUALS + '!';

        // Keywords have their types in the order in which they stand in KEYWORDS.
        static final int VAR = 200;
        static final int DEF = 201;
        static final int FUN = 202;
        static final int RETURN = 203;
        static final int YIELD = 204;
        static final int IF = 205;
        static final int ELSE = 206;
        static final int WHILE = 207;
        static final int FOR = 208;
        static final int IN = 209;
        static final int BREAK = 210;
        static final int CONTINUE = 211;
        static final int TRY = 212;
        static final int CATCH = 213;
        static final int FINALLY = 214;
        static final int THROW = 215;
        static final int PRINT = 216;
        static final int COLLECT = 217;
        static final int OBJECT = 218;
        static final int LIKE = 219;
        static final int NIL = 220;
        static final int TRUE = 221;
        static final int FALSE = 222;
        static final int SELF = 223;
        static final int NOT = 224;
        static final int AND = 225;
        static final int OR = 226;
        static final int WEAK = 227;
        static final int NEXT = 228;
        private static final String KEYWORDS = "var def fun return yield if else while for in break continue try catch finally throw print collect object like nil true false self not and or weak next";
        private static final int KEYWORD_COUNT = 29;
        private static final String SIGNS = "(){},;.+-*/%<>=";

        private static final int MOST_BYTES = 2000;
        private static final int MOST_LETTERS = 10;
        private static final int MOST_DIGITS = 6;

        private final Row tape = new Row(MOST_BYTES);
        private final Row keywords = new Row(KEYWORD_COUNT);
        private final Row types = new Row(MOST + 1);
        private final Row places = new Row(MOST + 1);
        private final Row keys = new Row(MOST + 1);
        private int length;
        private int count;

        Tokens() {
            fillKeys(KEYWORDS, keywords);
        }

        int length() {
            return length;
        }

        boolean hasRoom(int bytes) {
            return length + bytes <= MOST_BYTES;
        }

        void append(int four) {
            for (int shift = 24; shift >= 0; shift -= 8) {
                tape.put(length, (four >>> shift) & 255);
                length++;
            }
        }

        void shorten(int bytes) {
            length = bytes;
        }

        int type(int token) {
            return types.at(token);
        }

        int textPlace(int token) {
            return places.at(token);
        }

        /** A number's value, or what tells one word from all others. */
        long key(int token) {
            return keys.valueAt(token);
        }

        /** Reads the tape up to its end, a bad token, or the one that is too many, which is bad, too. */
        void split() {
            count = 0;
            int place = 0;
            boolean more = true;
            for (int n = 0; n <= MOST && more; n++) {
                place = behindBlanks(place);
                if (place >= length) {
                    add(END, length, 0L);
                } else if (count == MOST) {
                    add(BAD, place, 0L);
                } else {
                    place = readToken(place);
                }
                int type = types.at(count - 1);
                more = type != END && type != BAD;
            }
        }

        /** Puts the keys of the words of a text, between which single blanks stand, into a row. */
        static void fillKeys(String text, Row row) {
            int word = 0;
            long key = 0L;
            for (int n = 0; n < text.length(); n++) {
                int letter = text.charAt(n);
                if (letter == ' ') {
                    row.put(word, key);
                    word++;
                    key = 0L;
                } else {
                    key = longerKey(key, letter);
                }
            }
            row.put(word, key);
        }

        // Ten letters and digits to the base 37, none of which is 0, so that no two words share a key.
        private static long longerKey(long key, int letter) {
            return key * 37L + (isDigit(letter) ? letter - '0' + 27 : letter - 'a' + 1);
        }

        private static boolean isLetter(int letter) {
            return letter >= 'a' && letter <= 'z';
        }

        private static boolean isDigit(int letter) {
            return letter >= '0' && letter <= '9';
        }

        private void add(int type, int place, long key) {
            types.put(count, type);
            places.put(count, place);
            keys.put(count, key);
            count++;
        }

        private int behindBlanks(int from) {
            int place = from;
            for (int n = 0; n < MOST_BYTES && place < length && isBlank(tape.at(place)); n++) {
                place++;
            }
            return place;
        }

        private static boolean isBlank(int letter) {
            return letter == ' ' || letter == '\n';
        }

        /** Adds the token that begins at a place, and tells the place behind it. */
        private int readToken(int place) {
            int first = tape.at(place);
            if (isLetter(first)) {
                return readWord(place, place);
            }
            if (isDigit(first)) {
                return readNumber(place);
            }
            if (first == '\'') {
                return readWord(place, place + 1);
            }
            return readSign(place, first);
        }

        /** Adds a word, or a symbol, whose word begins behind its first byte. */
        private int readWord(int place, int from) {
            int end = from;
            long key = 0L;
            for (int n = 0; n < MOST_BYTES && goesOnWord(end, from); n++) {
                key = longerKey(key, tape.at(end));
                end++;
            }
            if (end == from || end - from > MOST_LETTERS) {
                add(BAD, place, 0L);
            } else {
                add(from > place ? SYMBOL : wordType(key), place, key);
            }
            return end;
        }

        private boolean goesOnWord(int place, int from) {
            int letter = place < length ? tape.at(place) : 0;
            return isLetter(letter) || place > from && isDigit(letter);
        }

        private int wordType(long key) {
            for (int keyword = 0; keyword < KEYWORD_COUNT; keyword++) {
                if (keywords.valueAt(keyword) == key) {
                    return VAR + keyword;
                }
            }
            return NAME;
        }

        private int readNumber(int place) {
            int end = place;
            int number = 0;
            for (int n = 0; n < MOST_BYTES && end < length && isDigit(tape.at(end)); n++) {
                number = number * 10 + tape.at(end) - '0';
                end++;
            }
            add(end - place > MOST_DIGITS ? BAD : NUMBER, place, number);
            return end;
        }

        private int readSign(int place, int first) {
            boolean equals = place + 1 < length && tape.at(place + 1) == '=';
            if (equals && (first == '<' || first == '>' || first == '=' || first == '!')) {
                add(WITH_EQUALS + first, place, 0L);
                return place + 2;
            }
            add(first < WITH_EQUALS && SIGNS.indexOf((char) first) >= 0 ? first : BAD, place, 0L);
            return place + 1;
        }
    }

    /** The code of a script, and what is known of its functions; the script itself counts as function -1. */
    private static final class Script {
        static final int WHOLE = -1;

        // Where nothing is written, a script has ended.
        static final int END = 0;
        static final int STEP = 1;
        static final int PUSH = 2;
        static final int SELF = 3;
        static final int LOAD = 4;
        static final int STORE = 5;
        static final int DROP = 6;
        static final int JUMP = 7;
        static final int UNLESS = 8;
        static final int AND = 9;
        static final int OR = 10;
        static final int PRINT = 11;
        static final int NOT = 12;
        static final int NEGATE = 13;
        static final int ADD = 14;
        static final int SUBTRACT = 15;
        static final int MULTIPLY = 16;
        static final int DIVIDE = 17;
        static final int REST = 18;
        static final int LESS = 19;
        static final int MORE = 20;
        static final int LESS_EQUAL = 21;
        static final int MORE_EQUAL = 22;
        static final int SAME = 23;
        static final int OTHER = 24;
        static final int PARENT = 25;
        static final int READ = 26;
        static final int METHOD = 27;
        static final int ASSIGN = 28;
        static final int FUNCTION = 29;
        static final int OBJECT = 30;
        static final int WORD = 31;
        static final int WEAK = 32;
        static final int CALL = 33;
        static final int NEXT = 34;
        static final int LOOP = 35;
        static final int ROUND = 36;
        static final int TRY = 37;
        static final int TRIED = 38;
        static final int FINISH = 39;
        static final int LEAVE = 40;
        static final int RETURN = 41;
        static final int YIELD = 42;
        static final int THROW = 43;
        static final int COLLECT = 44;
        // These two are LEAVE, but for the loop to which they still refer by its number.
        static final int BREAK = 45;
        static final int CONTINUE = 46;

        // Two tokens make three instructions at most.
        private static final int MOST_CODE = 1000;
        // While it is read, a script can have more functions than it may.
        private static final int MOST_FUNCTIONS = Tokens.MOST / 5 + 1;

        private final Row operations = new Row(MOST_CODE);
        private final Row firsts = new Row(MOST_CODE);
        private final Row seconds = new Row(MOST_CODE);
        private final Row entries = new Row(MOST_FUNCTIONS);
        private final Row outers = new Row(MOST_FUNCTIONS);
        private final Row inputs = new Row(MOST_FUNCTIONS);
        private final Row variables = new Row(MOST_FUNCTIONS);
        private final Row yields = new Row(MOST_FUNCTIONS);
        private int length;
        private int functions;
        private int words = Names.FIRST_COUNT;

        void clear() {
            operations.fill(END);
            length = 0;
            functions = 0;
            variables.put(0, 0);
            yields.put(0, 0);
        }

        void copyFrom(Script other) {
            operations.copyFrom(other.operations);
            firsts.copyFrom(other.firsts);
            seconds.copyFrom(other.seconds);
            entries.copyFrom(other.entries);
            outers.copyFrom(other.outers);
            inputs.copyFrom(other.inputs);
            variables.copyFrom(other.variables);
            yields.copyFrom(other.yields);
            length = other.length;
            functions = other.functions;
            words = other.words;
        }

        int length() {
            return length;
        }

        /** Adds an instruction, and tells where it stands. */
        int add(int operation, int first, int second) {
            int place = length;
            if (place < MOST_CODE) {
                operations.put(place, operation);
                set(place, first, second);
                length++;
            }
            return place;
        }

        void takeBack() {
            length = length > 0 ? length - 1 : 0;
        }

        void change(int place, int operation) {
            operations.put(place, operation);
        }

        void set(int place, int first, int second) {
            firsts.put(place, first);
            seconds.put(place, second);
        }

        int operation(int place) {
            return operations.at(place);
        }

        int first(int place) {
            return firsts.at(place);
        }

        int second(int place) {
            return seconds.at(place);
        }

        int functionCount() {
            return functions;
        }

        int wordCount() {
            return words;
        }

        void setWordCount(int count) {
            words = count;
        }

        /** Adds a function that stands in another one, or in the script, and tells its number. */
        int addFunction(int outer) {
            functions++;
            outers.put(functions, outer);
            inputs.put(functions, 0);
            variables.put(functions, 0);
            yields.put(functions, 0);
            return functions - 1;
        }

        int outer(int function) {
            return outers.at(function + 1);
        }

        int entry(int function) {
            return entries.at(function + 1);
        }

        void setEntry(int function, int place) {
            entries.put(function + 1, place);
        }

        int inputCount(int function) {
            return inputs.at(function + 1);
        }

        void setInputCount(int function, int count) {
            inputs.put(function + 1, count);
        }

        int variableCount(int function) {
            return variables.at(function + 1);
        }

        void addVariable(int function) {
            variables.put(function + 1, variables.at(function + 1) + 1);
        }

        boolean hasYield(int function) {
            return yields.at(function + 1) != 0;
        }

        void setYield(int function) {
            yields.put(function + 1, 1);
        }
    }

    /** The names that were declared, the words, and the first error, as a script is read. */
    private static final class Names {
        static final int FIRST_COUNT = 8;
        private static final String FIRST_WORDS = "type zero slot args deep full done busy";
        private static final int MOST_WORDS = 32;

        private final Row functions = new Row(Tokens.MOST);
        private final Row keys = new Row(Tokens.MOST);
        private final Row numbers = new Row(Tokens.MOST);
        private final Row words = new Row(Tokens.MOST + FIRST_COUNT);
        private int count;
        private int wordCount;
        private int error;
        private int errorToken;

        void clear() {
            Tokens.fillKeys(FIRST_WORDS, words);
            wordCount = FIRST_COUNT;
            count = 0;
            error = 0;
            errorToken = Tokens.MOST;
        }

        int error() {
            return error;
        }

        int errorToken() {
            return errorToken;
        }

        int wordCount() {
            return wordCount;
        }

        void note(int number, int token) {
            if (error == 0 || token < errorToken || token == errorToken && number < error) {
                error = number;
                errorToken = token;
            }
        }

        void declare(int function, long key, int number) {
            functions.put(count, function);
            keys.put(count, key);
            numbers.put(count, number);
            count++;
        }

        /** The number of the variable of this name of a function; -1 if it declares none. */
        int find(int function, long key) {
            for (int n = 0; n < count; n++) {
                if (functions.at(n) == function && keys.valueAt(n) == key) {
                    return numbers.at(n);
                }
            }
            return -1;
        }

        int word(long key, int token) {
            for (int word = 0; word < wordCount; word++) {
                if (words.valueAt(word) == key) {
                    return word;
                }
            }
            if (wordCount >= MOST_WORDS) {
                note(5, token);
            }
            words.put(wordCount, key);
            wordCount++;
            return wordCount - 1;
        }
    }

    /** Reads tokens by the grammar of the document, and writes their code into a draft. */
    private static final class Reader {
        private static final int MOST_DEPTH = 12;
        private static final int MOST_FUNCTIONS = 20;
        private static final int MOST_VARIABLES = 10;
        private static final int MOST_SCRIPT_VARIABLES = 16;
        private static final int MOST_SLOTS = 8;
        private static final int MOST_INPUTS = 6;
        private static final int NOWHERE = -1;

        // What a call can be, for a = behind it.
        private static final int OTHER = 0;
        private static final int NAME = 1;
        private static final int SLOT = 2;

        private final Tokens tokens;
        private final Names names = new Names();
        private final Script draft = new Script();
        private final Row slotWords = new Row(Tokens.MOST);
        private final Row loopStarts = new Row(Tokens.MOST);
        private final Row loopEnds = new Row(Tokens.MOST);
        private final Row loopLevels = new Row(Tokens.MOST);
        private final Row roundLevels = new Row(Tokens.MOST);
        private int slotCount;
        private int loopCount;
        private int at;
        private boolean failed;

        // Where the token stands: its function, the innermost loop there, how many loops
        // there are there, and how many entries a frame has there (see Frames).
        private int function;
        private int loop;
        private int loopDepth;
        private int level;

        // The call that was read last.
        private int callStart;
        private int callEnd;
        private int callShape;

        Reader(Tokens tokens) {
            this.tokens = tokens;
        }

        Script draft() {
            return draft;
        }

        /** Reads the tape, and tells the error, or 0. */
        int read() {
            begin();
            tokens.split();
            statements(0);
            need(Tokens.END);
            draft.add(Script.END, 0, 0);
            if (failed) {
                return 1;
            }
            resolve();
            draft.setWordCount(names.wordCount());
            return names.error();
        }

        int errorPlace() {
            return tokens.textPlace(failed ? at : names.errorToken());
        }

        private void begin() {
            names.clear();
            draft.clear();
            slotCount = 0;
            loopCount = 0;
            at = 0;
            failed = false;
            function = Script.WHOLE;
            loop = NOWHERE;
            loopDepth = 0;
            level = 0;
        }

        // Behind a failure every token is bad, so that all reading comes to its end.
        private int now() {
            return failed ? Tokens.BAD : tokens.type(at);
        }

        private boolean take(int type) {
            if (now() != type) {
                return false;
            }
            at++;
            return true;
        }

        private void need(int type) {
            if (failed || tokens.type(at) != type) {
                failed = true;
            } else {
                at++;
            }
        }

        /** Takes the token behind which the depth is this one, and tells whether it could be taken. */
        private boolean open(int type, int depth) {
            if (depth > MOST_DEPTH) {
                failed = true;
            }
            need(type);
            return !failed;
        }

        private int takeName() {
            int token = at;
            need(Tokens.NAME);
            return token;
        }

        private void statements(int depth) {
            for (int n = 0; n < Tokens.MOST && mayGoOn(); n++) {
                statement(depth);
            }
        }

        private boolean mayGoOn() {
            int type = now();
            return type != '}' && type != Tokens.END && type != Tokens.BAD;
        }

        private void block(int depth) {
            if (open('{', depth + 1)) {
                statements(depth + 1);
                need('}');
            }
        }

        private void statement(int depth) {
            int type = now();
            addStep(at, loopDepth);
            if (type == Tokens.VAR) {
                variableStatement(depth);
            } else if (type == Tokens.DEF) {
                functionStatement(depth);
            } else if (type == Tokens.RETURN) {
                returnStatement(depth);
            } else if (type == Tokens.YIELD) {
                yieldStatement(depth);
            } else if (type == Tokens.IF) {
                ifStatement(depth);
            } else if (type == Tokens.WHILE) {
                whileStatement(depth);
            } else if (type == Tokens.FOR) {
                forStatement(depth);
            } else if (type == Tokens.BREAK || type == Tokens.CONTINUE) {
                leaveStatement(type == Tokens.BREAK ? Script.BREAK : Script.CONTINUE);
            } else if (type == Tokens.TRY) {
                tryStatement(depth);
            } else if (type == Tokens.THROW || type == Tokens.PRINT) {
                wordStatement(type == Tokens.THROW ? Script.THROW : Script.PRINT, depth);
            } else if (type == Tokens.COLLECT) {
                at++;
                need(';');
                draft.add(Script.COLLECT, 0, 0);
            } else {
                valueStatement(depth);
            }
        }

        private void addStep(int token, int loops) {
            draft.add(Script.STEP, tokens.textPlace(token), loops);
        }

        private void declare(int token, boolean canBeThere) {
            long key = tokens.key(token);
            if (names.find(function, key) >= 0) {
                if (!canBeThere) {
                    names.note(3, token);
                }
                return;
            }
            int number = draft.variableCount(function);
            if (number >= (function == Script.WHOLE ? MOST_SCRIPT_VARIABLES : MOST_VARIABLES)) {
                names.note(5, token);
            }
            names.declare(function, key, number);
            draft.addVariable(function);
        }

        private void variableStatement(int depth) {
            at++;
            int name = takeName();
            declare(name, false);
            need('=');
            value(depth);
            need(';');
            draft.add(Script.STORE, name, function);
        }

        private void functionStatement(int depth) {
            int made = makeFunction();
            int name = takeName();
            declare(name, false);
            inside(made, depth);
            draft.add(Script.STORE, name, function);
        }

        /** Takes a def or fun, and tells the number of its function. */
        private int makeFunction() {
            int made = draft.addFunction(function);
            if (made >= MOST_FUNCTIONS) {
                names.note(5, at);
            }
            at++;
            draft.add(Script.FUNCTION, made, 0);
            return made;
        }

        /** Reads the inputs and the block of a function. */
        private void inside(int made, int depth) {
            int outerFunction = function;
            int outerLoop = loop;
            int outerLoopDepth = loopDepth;
            int outerLevel = level;
            int jump = draft.add(Script.JUMP, 0, 0);
            function = made;
            loop = NOWHERE;
            loopDepth = 0;
            level = 0;
            draft.setEntry(made, draft.length());
            inputs(depth);
            block(depth);
            draft.add(Script.PUSH, Value.NIL, 0);
            draft.add(Script.RETURN, NOWHERE, 0);
            function = outerFunction;
            loop = outerLoop;
            loopDepth = outerLoopDepth;
            level = outerLevel;
            draft.set(jump, draft.length(), 0);
        }

        private void inputs(int depth) {
            int count = 0;
            if (open('(', depth + 1) && now() != ')') {
                declare(takeName(), false);
                count++;
                for (int n = 0; n < Tokens.MOST && take(','); n++) {
                    declare(takeName(), false);
                    count++;
                }
            }
            need(')');
            draft.setInputCount(function, count);
        }

        private void returnStatement(int depth) {
            int token = at;
            at++;
            if (function == Script.WHOLE) {
                names.note(4, token);
            }
            if (now() == ';') {
                draft.add(Script.PUSH, Value.NIL, 0);
                draft.add(Script.RETURN, NOWHERE, 0);
            } else {
                value(depth);
                draft.add(Script.RETURN, token, function);
            }
            need(';');
        }

        private void yieldStatement(int depth) {
            if (function == Script.WHOLE) {
                names.note(4, at);
            }
            draft.setYield(function);
            wordStatement(Script.YIELD, depth);
        }

        /** Reads a statement of a keyword and a value. */
        private void wordStatement(int operation, int depth) {
            at++;
            value(depth);
            need(';');
            draft.add(operation, 0, 0);
        }

        private void ifStatement(int depth) {
            at++;
            value(depth);
            int unless = draft.add(Script.UNLESS, 0, 0);
            block(depth);
            if (take(Tokens.ELSE)) {
                int jump = draft.add(Script.JUMP, 0, 0);
                draft.set(unless, draft.length(), 0);
                block(depth);
                draft.set(jump, draft.length(), 0);
            } else {
                draft.set(unless, draft.length(), 0);
            }
        }

        private void whileStatement(int depth) {
            int token = at;
            at++;
            int jump = draft.add(Script.JUMP, 0, 0);
            int made = makeLoop(token);
            draft.set(jump, draft.length(), 0);
            value(depth);
            int unless = draft.add(Script.UNLESS, 0, 0);
            loopBlock(made, depth);
            draft.set(unless, draft.length(), 0);
        }

        private void forStatement(int depth) {
            int token = at;
            at++;
            int name = takeName();
            declare(name, true);
            need(Tokens.IN);
            value(depth);
            draft.add(Script.LOOP, 0, 0);
            int jump = draft.add(Script.JUMP, 0, 0);
            int made = makeLoop(token);
            draft.set(jump, draft.length(), 0);
            int round = draft.add(Script.ROUND, 0, 0);
            draft.add(Script.STORE, name, function);
            level++;
            loopBlock(made, depth);
            level--;
            draft.set(round, draft.length(), 0);
        }

        /** Makes a loop that goes on, behind a round, with the step that is written here. */
        private int makeLoop(int token) {
            int made = loopCount;
            loopCount++;
            loopStarts.put(made, draft.length());
            loopLevels.put(made, level);
            addStep(token, loopDepth + 1);
            return made;
        }

        private void loopBlock(int made, int depth) {
            int outer = loop;
            roundLevels.put(made, level);
            loop = made;
            loopDepth++;
            block(depth);
            loopDepth--;
            loop = outer;
            draft.add(Script.JUMP, loopStarts.at(made), 0);
            loopEnds.put(made, draft.length());
        }

        private void leaveStatement(int operation) {
            if (loop == NOWHERE) {
                names.note(4, at);
            }
            at++;
            need(';');
            draft.add(operation, loop, 0);
        }

        private void tryStatement(int depth) {
            at++;
            int start = draft.add(Script.TRY, NOWHERE, NOWHERE);
            int catchAt = NOWHERE;
            int caught = NOWHERE;
            level++;
            block(depth);
            int tried = draft.add(Script.TRIED, 0, 0);
            if (take(Tokens.CATCH)) {
                catchAt = draft.length();
                int name = takeName();
                declare(name, true);
                draft.add(Script.STORE, name, function);
                block(depth);
                caught = draft.add(Script.TRIED, 0, 0);
            }
            int finallyAt = NOWHERE;
            if (catchAt == NOWHERE || now() == Tokens.FINALLY) {
                need(Tokens.FINALLY);
                finallyAt = draft.length();
                block(depth);
                draft.add(Script.FINISH, 0, 0);
            }
            level--;
            draft.set(start, catchAt, finallyAt);
            draft.set(tried, draft.length(), 0);
            draft.set(caught, draft.length(), 0);
        }

        private void valueStatement(int depth) {
            int start = at;
            value(depth);
            if (now() == '=') {
                assignment(callStart == start && callEnd == at ? callShape : OTHER, start, depth);
            } else {
                draft.add(Script.DROP, 0, 0);
            }
            need(';');
        }

        /** Reads a = and what is behind it; what is in front of it, which begins at a token, has this shape. */
        private void assignment(int shape, int start, int depth) {
            int word = draft.first(draft.length() - 1);
            if (shape == OTHER) {
                names.note(4, at);
            } else {
                draft.takeBack();
            }
            at++;
            value(depth);
            if (shape == SLOT) {
                draft.add(Script.ASSIGN, word, 0);
            } else if (shape == NAME) {
                draft.add(Script.STORE, start, function);
            }
        }

        private void value(int depth) {
            both(depth);
            for (int n = 0; n < Tokens.MOST && take(Tokens.OR); n++) {
                int or = draft.add(Script.OR, 0, 0);
                both(depth);
                draft.set(or, draft.length(), 0);
            }
        }

        private void both(int depth) {
            single(depth);
            for (int n = 0; n < Tokens.MOST && take(Tokens.AND); n++) {
                int and = draft.add(Script.AND, 0, 0);
                single(depth);
                draft.set(and, draft.length(), 0);
            }
        }

        private void single(int depth) {
            if (now() != Tokens.NOT) {
                test(depth);
            } else if (open(Tokens.NOT, depth + 1)) {
                single(depth + 1);
                draft.add(Script.NOT, 0, 0);
            }
        }

        private void test(int depth) {
            sum(depth);
            int operation = testOf(now());
            if (operation != Script.END) {
                at++;
                sum(depth);
                draft.add(operation, 0, 0);
            }
        }

        private static int testOf(int type) {
            switch (type) {
                case '<':
                    return Script.LESS;
                case '>':
                    return Script.MORE;
                case Tokens.LESS_EQUAL:
                    return Script.LESS_EQUAL;
                case Tokens.MORE_EQUAL:
                    return Script.MORE_EQUAL;
                case Tokens.SAME:
                    return Script.SAME;
                case Tokens.OTHER:
                    return Script.OTHER;
                default:
                    return Script.END;
            }
        }

        private void sum(int depth) {
            product(depth);
            for (int n = 0; n < Tokens.MOST && (now() == '+' || now() == '-'); n++) {
                int operation = now() == '+' ? Script.ADD : Script.SUBTRACT;
                at++;
                product(depth);
                draft.add(operation, 0, 0);
            }
        }

        private void product(int depth) {
            turned(depth);
            for (int n = 0; n < Tokens.MOST && productOf(now()) != Script.END; n++) {
                int operation = productOf(now());
                at++;
                turned(depth);
                draft.add(operation, 0, 0);
            }
        }

        private static int productOf(int type) {
            if (type == '*') {
                return Script.MULTIPLY;
            }
            if (type == '/') {
                return Script.DIVIDE;
            }
            return type == '%' ? Script.REST : Script.END;
        }

        private void turned(int depth) {
            int type = now();
            if (type != '-' && type != Tokens.WEAK && type != Tokens.NEXT) {
                call(depth);
            } else if (open(type, depth + 1)) {
                turned(depth + 1);
                draft.add(type == '-' ? Script.NEGATE : type == Tokens.WEAK ? Script.WEAK : Script.NEXT, 0, 0);
            }
        }

        // An object that is like another one can stand behind like without any greater depth,
        // so these are counted instead of read each in a call of its own.
        private void call(int depth) {
            int start = at;
            int likes = 0;
            for (int n = 0; n < Tokens.MOST && now() == Tokens.OBJECT && tokens.type(at + 1) == Tokens.LIKE; n++) {
                at += 2;
                likes++;
            }
            int shape = first(depth);
            boolean more = true;
            for (int n = 0; n < Tokens.MOST && more; n++) {
                if (now() == '.') {
                    slotRead();
                    shape = SLOT;
                } else if (now() == '(') {
                    values(shape, depth);
                    shape = OTHER;
                } else if (likes > 0) {
                    likes--;
                    draft.add(Script.PARENT, 0, 0);
                    braces(1, depth);
                    shape = OTHER;
                } else {
                    more = false;
                }
            }
            callStart = start;
            callEnd = at;
            callShape = shape;
        }

        private void slotRead() {
            at++;
            int name = takeName();
            draft.add(Script.READ, names.word(tokens.key(name), name), 0);
        }

        /** Reads the values in the ( ) of a call; what is called has this shape. */
        private void values(int shape, int depth) {
            if (shape == SLOT) {
                draft.change(draft.length() - 1, Script.METHOD);
            } else {
                draft.add(Script.PUSH, Value.NIL, 0);
            }
            int count = 0;
            if (open('(', depth + 1) && now() != ')') {
                value(depth + 1);
                count++;
                for (int n = 0; n < Tokens.MOST && take(','); n++) {
                    if (count >= MOST_INPUTS) {
                        names.note(5, at);
                    }
                    value(depth + 1);
                    count++;
                }
            }
            need(')');
            draft.add(Script.CALL, count, 0);
        }

        /** Reads the first of a call, and tells its shape. */
        private int first(int depth) {
            int token = at;
            int type = now();
            if (type == Tokens.NAME) {
                at++;
                draft.add(Script.LOAD, token, function);
                return NAME;
            }
            if (type == '(') {
                inner(depth);
            } else if (type == Tokens.FUN) {
                inside(makeFunction(), depth);
            } else if (type == Tokens.OBJECT) {
                at++;
                braces(0, depth);
            } else if (type == Tokens.SELF) {
                at++;
                draft.add(Script.SELF, 0, 0);
            } else {
                plain(token, type);
            }
            return OTHER;
        }

        private void inner(int depth) {
            if (open('(', depth + 1)) {
                value(depth + 1);
                need(')');
            }
        }

        /** Reads a first that stands for a value itself. */
        private void plain(int token, int type) {
            if (type == Tokens.NUMBER) {
                draft.add(Script.PUSH, Value.NUMBER, (int) tokens.key(token));
            } else if (type == Tokens.SYMBOL) {
                draft.add(Script.PUSH, Value.SYMBOL, names.word(tokens.key(token), token));
            } else if (type == Tokens.NIL) {
                draft.add(Script.PUSH, Value.NIL, 0);
            } else if (type == Tokens.TRUE || type == Tokens.FALSE) {
                draft.add(Script.PUSH, Value.TRUTH, type == Tokens.TRUE ? 1 : 0);
            } else {
                failed = true;
                return;
            }
            at++;
        }

        /** Reads an object's braces; the words of its slots stand behind the instruction. */
        private void braces(int parents, int depth) {
            int from = slotCount;
            if (open('{', depth + 1) && now() != '}') {
                slot(from, depth + 1);
                for (int n = 0; n < Tokens.MOST && take(','); n++) {
                    slot(from, depth + 1);
                }
            }
            need('}');
            draft.add(Script.OBJECT, slotCount - from, parents);
            for (int slot = from; slot < slotCount; slot++) {
                draft.add(Script.WORD, slotWords.at(slot), 0);
            }
            slotCount = from;
        }

        private void slot(int from, int depth) {
            int name = takeName();
            int word = names.word(tokens.key(name), name);
            for (int slot = from; slot < slotCount; slot++) {
                if (slotWords.at(slot) == word) {
                    names.note(3, name);
                }
            }
            if (slotCount - from >= MOST_SLOTS) {
                names.note(5, name);
            }
            slotWords.put(slotCount, word);
            slotCount++;
            need('=');
            value(depth);
        }

        /** Puts variables and places in the place of names and loops, and notes what needs all of the text. */
        private void resolve() {
            for (int place = 0; place < draft.length(); place++) {
                int operation = draft.operation(place);
                if (operation == Script.LOAD || operation == Script.STORE) {
                    resolveName(place, draft.first(place), draft.second(place));
                } else if (operation == Script.BREAK || operation == Script.CONTINUE) {
                    resolveLoop(place, operation, draft.first(place));
                } else if (operation == Script.RETURN && draft.first(place) != NOWHERE
                        && draft.hasYield(draft.second(place))) {
                    names.note(4, draft.first(place));
                }
            }
        }

        private void resolveName(int place, int token, int user) {
            long key = tokens.key(token);
            int home = user;
            int number = names.find(home, key);
            int scopes = 0;
            for (int n = 0; n <= MOST_DEPTH && number < 0 && home != Script.WHOLE; n++) {
                home = draft.outer(home);
                number = names.find(home, key);
                scopes++;
            }
            if (number < 0) {
                names.note(2, token);
            }
            draft.set(place, scopes, number);
        }

        private void resolveLoop(int place, int operation, int left) {
            if (operation == Script.BREAK) {
                draft.set(place, loopEnds.at(left), loopLevels.at(left));
            } else {
                draft.set(place, loopStarts.at(left), roundLevels.at(left));
            }
            draft.change(place, Script.LEAVE);
        }
    }

    /** The things: objects, functions, generators and weak references. */
    private static final class Things {
        static final int MOST = 48;
        static final int NONE = -1;
        static final int MOST_SLOTS = 8;

        // How far a generator is.
        static final int NEW = 0;
        static final int WAITING = 1;
        static final int RUNNING = 2;
        static final int ENDED = 3;

        private final Row kinds = new Row(MOST);
        private final Row functions = new Row(MOST);
        private final Row scopes = new Row(MOST);
        private final Row progresses = new Row(MOST);
        private final Row parents = new Row(MOST);
        private final Row targets = new Row(MOST);
        private final Row slotCounts = new Row(MOST);
        private final Row slotWords = new Row(MOST * MOST_SLOTS);
        private final Row slotValues = new Row(MOST * MOST_SLOTS);
        private int count;

        void clear() {
            kinds.fill(Value.NIL);
            count = 0;
        }

        void copyFrom(Things other) {
            kinds.copyFrom(other.kinds);
            functions.copyFrom(other.functions);
            scopes.copyFrom(other.scopes);
            progresses.copyFrom(other.progresses);
            parents.copyFrom(other.parents);
            targets.copyFrom(other.targets);
            slotCounts.copyFrom(other.slotCounts);
            slotWords.copyFrom(other.slotWords);
            slotValues.copyFrom(other.slotValues);
            count = other.count;
        }

        int count() {
            return count;
        }

        boolean has(int thing) {
            return kinds.at(thing) != Value.NIL;
        }

        int kind(int thing) {
            return kinds.at(thing);
        }

        boolean is(int thing, int kind) {
            return kinds.at(thing) == kind;
        }

        /** The value that is this thing; nil for none. */
        long value(int thing) {
            int kind = kinds.at(thing);
            return kind == Value.NIL ? 0L : Value.pack(kind, thing);
        }

        /** Makes a thing with the smallest number that is free; there has to be one. */
        int make(int kind) {
            int thing = 0;
            while (thing < MOST - 1 && kinds.at(thing) != Value.NIL) {
                thing++;
            }
            kinds.put(thing, kind);
            functions.put(thing, 0);
            scopes.put(thing, 0);
            progresses.put(thing, NEW);
            parents.put(thing, NONE);
            targets.put(thing, NONE);
            slotCounts.put(thing, 0);
            count++;
            return thing;
        }

        void free(int thing) {
            kinds.put(thing, Value.NIL);
            count--;
        }

        int function(int thing) {
            return functions.at(thing);
        }

        void setFunction(int thing, int function) {
            functions.put(thing, function);
        }

        /** The scope round a function. */
        int scope(int thing) {
            return scopes.at(thing);
        }

        void setScope(int thing, int scope) {
            scopes.put(thing, scope);
        }

        int progress(int generator) {
            return progresses.at(generator);
        }

        void setProgress(int generator, int progress) {
            progresses.put(generator, progress);
        }

        int target(int weak) {
            return targets.at(weak);
        }

        void setTarget(int weak, int target) {
            targets.put(weak, target);
        }

        /** Lets weak references to what was freed refer to nothing. */
        void clearTargets() {
            for (int thing = 0; thing < MOST; thing++) {
                if (kinds.at(targets.at(thing)) == Value.NIL) {
                    targets.put(thing, NONE);
                }
            }
        }

        int parent(int object) {
            return parents.at(object);
        }

        void setParent(int object, int parent) {
            parents.put(object, parent);
        }

        int slotCount(int object) {
            return slotCounts.at(object);
        }

        int slotWord(int object, int slot) {
            return slotWords.at(object * MOST_SLOTS + slot);
        }

        long slotValue(int object, int slot) {
            return slotValues.valueAt(object * MOST_SLOTS + slot);
        }

        /** The slot of an object itself that has a word; NONE without one. */
        int ownSlot(int object, int word) {
            for (int slot = 0; slot < slotCounts.at(object); slot++) {
                if (slotWords.at(object * MOST_SLOTS + slot) == word) {
                    return slot;
                }
            }
            return NONE;
        }

        /** The nearest of an object and its parents that has a slot of this word; NONE if none has. */
        int holder(int object, int word) {
            int holder = object;
            for (int n = 0; n < MOST && holder != NONE && ownSlot(holder, word) == NONE; n++) {
                holder = parents.at(holder);
            }
            return holder;
        }

        boolean inherits(int object, int other) {
            int parent = parents.at(object);
            for (int n = 0; n < MOST && parent != NONE && parent != other; n++) {
                parent = parents.at(parent);
            }
            return parent == other;
        }

        /** Gives an object's own slot a value; tells whether it has it, or has room for it. */
        boolean assign(int object, int word, long value) {
            int slot = ownSlot(object, word);
            if (slot == NONE) {
                slot = slotCounts.at(object);
                if (slot >= MOST_SLOTS) {
                    return false;
                }
                slotCounts.put(object, slot + 1);
                slotWords.put(object * MOST_SLOTS + slot, word);
            }
            slotValues.put(object * MOST_SLOTS + slot, value);
            return true;
        }
    }

    /** The scopes: scope 0 is the script's, the others are of functions. */
    private static final class Scopes {
        static final int WHOLE = 0;
        // Each of 48 things and 10 frames can keep scopes of its own up to the depth of the text, 12.
        static final int MOST = 700;
        // No text is deeper, so no more scopes stand round one.
        static final int MOST_ROUND = 13;
        private static final int WHOLE_SIZE = 16;
        private static final int SIZE = 10;

        private final Row values = new Row(WHOLE_SIZE + (MOST - 1) * SIZE);
        private final Row outers = new Row(MOST);
        private final Row free = new Row(MOST);
        private final Row kept = new Row(MOST);
        private int freeCount;

        void clear() {
            values.fill(0L);
            kept.fill(0);
            freeOthers();
        }

        void copyFrom(Scopes other) {
            values.copyFrom(other.values);
            outers.copyFrom(other.outers);
            free.copyFrom(other.free);
            freeCount = other.freeCount;
        }

        boolean isFull() {
            return freeCount == 0;
        }

        /** Makes a scope in which all is nil; there has to be a free one. */
        int make(int outer) {
            freeCount = freeCount > 0 ? freeCount - 1 : 0;
            int scope = free.at(freeCount);
            outers.put(scope, outer);
            for (int variable = 0; variable < SIZE; variable++) {
                values.put(placeOf(scope, variable), 0L);
            }
            return scope;
        }

        int outer(int scope) {
            return outers.at(scope);
        }

        /** The scope so many scopes further out. */
        int outer(int scope, int count) {
            int outer = scope;
            for (int n = 0; n < MOST_ROUND && n < count; n++) {
                outer = outers.at(outer);
            }
            return outer;
        }

        int size(int scope) {
            return scope == WHOLE ? WHOLE_SIZE : SIZE;
        }

        long value(int scope, int variable) {
            return values.valueAt(placeOf(scope, variable));
        }

        void set(int scope, int variable, long value) {
            values.put(placeOf(scope, variable), value);
        }

        void keepNone() {
            kept.fill(0);
        }

        /** Keeps a scope and those round it. */
        void keep(int from) {
            int scope = from;
            for (int n = 0; n < MOST_ROUND && scope != WHOLE && kept.at(scope) == 0; n++) {
                kept.put(scope, 1);
                scope = outers.at(scope);
            }
        }

        void freeOthers() {
            freeCount = 0;
            for (int scope = MOST - 1; scope > WHOLE; scope--) {
                if (kept.at(scope) == 0) {
                    free.put(freeCount, scope);
                    freeCount++;
                }
            }
        }

        private static int placeOf(int scope, int variable) {
            return scope == WHOLE ? variable : WHOLE_SIZE + (scope - 1) * SIZE + variable;
        }
    }

    /**
     * The frames. A record is what a frame knows: record 0 is the script's, 1 to 10 are those of calls, and each
     * generator has one from its making on, which is a frame's only as it runs. The entries of a record
     * are those of the for loops and try statements in which it is, from the outermost on.
     */
    private static final class Frames {
        static final int MOST = 10;
        static final int OF_GENERATORS = MOST + 1;
        static final int MOST_ENTRIES = 13;

        // What an entry is, and what its two numbers are.
        static final int COUNTING = 1; // a for: the next number, the number at which it is over
        static final int ASKING = 2; // a for: the generator
        static final int TRYING = 3; // a try or catch: where its catch is, where its finally is
        static final int GOES_ON = 4; // a finally behind which nothing is left
        static final int THROWS = 5; // a finally: the value to be thrown
        static final int RETURNS = 6; // a finally: the value to be returned
        static final int JUMPS = 7; // a finally: where to go, how many entries are left there

        private static final int RECORDS = OF_GENERATORS + Things.MOST;
        // At each of 13 depths less than 12 values wait in a frame.
        private static final int MOST_OPERANDS = (MOST + 1) * 13 * 12;

        private final Row places = new Row(RECORDS);
        private final Row functions = new Row(RECORDS);
        private final Row scopes = new Row(RECORDS);
        private final Row selves = new Row(RECORDS);
        private final Row entryCounts = new Row(RECORDS);
        private final Row entryTypes = new Row(RECORDS * MOST_ENTRIES);
        private final Row entryFirsts = new Row(RECORDS * MOST_ENTRIES);
        private final Row entrySeconds = new Row(RECORDS * MOST_ENTRIES);
        private final Row records = new Row(MOST + 1);
        private final Row bases = new Row(MOST + 1);
        private final Row operands = new Row(MOST_OPERANDS);
        private int depth;
        private int top;

        void clear() {
            depth = 0;
            top = 0;
            setUp(0, Script.WHOLE, Scopes.WHOLE, 0L, 0);
        }

        void copyFrom(Frames other) {
            places.copyFrom(other.places);
            functions.copyFrom(other.functions);
            scopes.copyFrom(other.scopes);
            selves.copyFrom(other.selves);
            entryCounts.copyFrom(other.entryCounts);
            entryTypes.copyFrom(other.entryTypes);
            entryFirsts.copyFrom(other.entryFirsts);
            entrySeconds.copyFrom(other.entrySeconds);
            records.copyFrom(other.records);
            bases.copyFrom(other.bases);
            operands.copyFrom(other.operands);
            depth = other.depth;
            top = other.top;
        }

        void setUp(int record, int function, int scope, long self, int place) {
            functions.put(record, function);
            scopes.put(record, scope);
            selves.put(record, self);
            places.put(record, place);
            entryCounts.put(record, 0);
        }

        int depth() {
            return depth;
        }

        /** The record of the frame at a depth; 0 is that of the script. */
        int record(int frame) {
            return records.at(frame);
        }

        int newest() {
            return records.at(depth);
        }

        void enter(int record) {
            depth++;
            records.put(depth, record);
            bases.put(depth, top);
        }

        void exit() {
            top = bases.at(depth);
            depth = depth > 0 ? depth - 1 : 0;
        }

        int function(int record) {
            return functions.at(record);
        }

        int scope(int record) {
            return scopes.at(record);
        }

        long self(int record) {
            return selves.valueAt(record);
        }

        /** Where the newest frame is in the code. */
        int here() {
            return places.at(records.at(depth));
        }

        void goTo(int place) {
            places.put(records.at(depth), place);
        }

        void goOn() {
            int record = records.at(depth);
            places.put(record, places.at(record) + 1);
        }

        int top() {
            return top;
        }

        /** The first operand of the frame at a depth; behind the newest frame, the one behind all. */
        int base(int frame) {
            return frame > depth ? top : bases.at(frame);
        }

        long operand(int place) {
            return operands.valueAt(place);
        }

        void setOperand(int place, long value) {
            operands.put(place, value);
        }

        void push(long value) {
            if (top < MOST_OPERANDS) {
                operands.put(top, value);
                top++;
            }
        }

        long pop() {
            top = top > 0 ? top - 1 : 0;
            return operands.valueAt(top);
        }

        void dropTo(int place) {
            top = place;
        }

        /** Forgets what the newest frame has worked out. */
        void dropAll() {
            top = bases.at(depth);
        }

        int entryCount(int record) {
            return entryCounts.at(record);
        }

        int entryType(int record, int entry) {
            return entryTypes.at(record * MOST_ENTRIES + entry);
        }

        long entryFirst(int record, int entry) {
            return entryFirsts.valueAt(record * MOST_ENTRIES + entry);
        }

        int entrySecond(int record, int entry) {
            return entrySeconds.at(record * MOST_ENTRIES + entry);
        }

        void addEntry(int type, long first, int second) {
            int record = records.at(depth);
            int count = entryCounts.at(record);
            if (count < MOST_ENTRIES) {
                entryCounts.put(record, count + 1);
                setEntry(type, first, second);
            }
        }

        /** Changes the innermost entry of the newest frame. */
        void setEntry(int type, long first, int second) {
            int record = records.at(depth);
            int place = record * MOST_ENTRIES + entryCounts.at(record) - 1;
            entryTypes.put(place, type);
            entryFirsts.put(place, first);
            entrySeconds.put(place, second);
        }

        void dropEntry() {
            int record = records.at(depth);
            int count = entryCounts.at(record);
            entryCounts.put(record, count > 0 ? count - 1 : 0);
        }
    }

    /** What is reached: each thing's distance, by one search at a time. */
    private static final class Reach {
        static final int NOWHERE = -1;
        // A thing from which a search begins can be reached by it, too.
        private static final int MOST_QUEUED = Things.MOST + 1;

        private final Things things;
        private final Scopes scopes;
        private final Frames frames;
        private final Row distances = new Row(Things.MOST);
        private final Row queue = new Row(MOST_QUEUED);
        private final Row seenScopes = new Row(Scopes.MOST);
        private int count;
        private int next;
        private int without;

        Reach(Things things, Scopes scopes, Frames frames) {
            this.things = things;
            this.scopes = scopes;
            this.frames = frames;
        }

        /** Begins a search which does not take up one thing, or NOWHERE. */
        void begin(int leftOut) {
            distances.fill(NOWHERE);
            seenScopes.fill(0);
            count = 0;
            next = 0;
            without = leftOut;
        }

        int distanceOf(int thing) {
            return distances.at(thing);
        }

        /** Takes up what the script and its frames hold. */
        void takeRoots() {
            for (int frame = 0; frame <= frames.depth(); frame++) {
                int record = frames.record(frame);
                takeRecord(record, 1);
                if (record >= Frames.OF_GENERATORS) {
                    take(Value.pack(Value.GENERATOR, record - Frames.OF_GENERATORS), 1);
                }
            }
            takeOperands(0, frames.top(), 1);
        }

        /** Takes up a thing from which the search begins, without reaching it. */
        void takeStart(int thing) {
            queue.put(count, thing);
            count++;
        }

        /** Takes up what is reached by all that was taken up, and tells how many things were. */
        int spread() {
            for (int n = 0; n < MOST_QUEUED && next < count; n++) {
                int thing = queue.at(next);
                next++;
                int distance = distances.at(thing) + 1;
                int kind = things.kind(thing);
                if (kind == Value.OBJECT) {
                    takeObject(thing, distance);
                } else if (kind == Value.FUNCTION) {
                    takeScopes(things.scope(thing), distance);
                } else if (kind == Value.GENERATOR && things.progress(thing) != Things.ENDED) {
                    takeRecord(Frames.OF_GENERATORS + thing, distance);
                    takeFrame(Frames.OF_GENERATORS + thing, distance);
                }
            }
            return count;
        }

        void take(long value, int distance) {
            int thing = Value.number(value);
            if (value >>> 32 >= Value.OBJECT && thing != without && distances.at(thing) == NOWHERE) {
                distances.put(thing, distance);
                queue.put(count, thing);
                count++;
            }
        }

        /** Takes up the values of a scope, and of those round it. */
        void takeScopes(int from, int distance) {
            int scope = from;
            for (int n = 0; n <= Scopes.MOST_ROUND && seenScopes.at(scope) == 0; n++) {
                seenScopes.put(scope, 1);
                for (int variable = 0; variable < scopes.size(scope); variable++) {
                    take(scopes.value(scope, variable), distance);
                }
                scope = scopes.outer(scope);
            }
        }

        private void takeObject(int object, int distance) {
            int parent = things.parent(object);
            if (parent != Things.NONE) {
                take(Value.pack(Value.OBJECT, parent), distance);
            }
            for (int slot = 0; slot < things.slotCount(object); slot++) {
                take(things.slotValue(object, slot), distance);
            }
        }

        private void takeRecord(int record, int distance) {
            takeScopes(frames.scope(record), distance);
            take(frames.self(record), distance);
            for (int entry = 0; entry < frames.entryCount(record); entry++) {
                int type = frames.entryType(record, entry);
                if (type == Frames.ASKING || type == Frames.THROWS || type == Frames.RETURNS) {
                    take(frames.entryFirst(record, entry), distance);
                }
            }
        }

        /** Takes up what the frame with a record has worked out; a generator that waits has no frame. */
        private void takeFrame(int record, int distance) {
            for (int frame = 1; frame <= frames.depth(); frame++) {
                if (frames.record(frame) == record) {
                    takeOperands(frames.base(frame), frames.base(frame + 1), distance);
                }
            }
        }

        private void takeOperands(int from, int to, int distance) {
            for (int place = from; place < to; place++) {
                take(frames.operand(place), distance);
            }
        }
    }

    /** Carries out the code of a script. */
    private static final class Machine {
        static final int KEPT_PRINTS = 40;

        // Its condition.
        static final int GOES = 0;
        static final int ENDED = 1;
        static final int FAILED = 2;

        // The words that it throws.
        private static final int TYPE = 0;
        private static final int ZERO = 1;
        private static final int SLOT = 2;
        private static final int ARGS = 3;
        private static final int DEEP = 4;
        private static final int FULL = 5;
        private static final int DONE = 6;
        private static final int BUSY = 7;

        // What an instruction wishes to be done behind it, besides the kind of a thing to be made.
        private static final int NOTHING = 0;
        private static final int COLLECTION = 8;
        private static final int THROWING = 9;
        private static final int RETURNING = 10;

        // Far more instructions than 200 steps, and what follows them till the machine stands, can have.
        private static final int MOST_TURNS = 1000000;

        private final Script script;
        private final Things things = new Things();
        private final Scopes scopes = new Scopes();
        private final Frames frames = new Frames();
        private final Reach reach = new Reach(things, scopes, frames);
        /** For searches that leave out a thing. */
        private final Reach without = new Reach(things, scopes, frames);
        private final Row prints = new Row(KEPT_PRINTS);
        private int condition = ENDED;
        private int stepCount;
        private int counted;
        private int collectionCount;
        private int freedCount;
        private int printCount;
        private long thrown;
        private int wish;
        /** The value that is to be thrown or returned. */
        private long carried;
        private int newScope;

        Machine(Script script) {
            this.script = script;
        }

        void begin() {
            things.clear();
            scopes.clear();
            frames.clear();
            condition = script.operation(0) == Script.END ? ENDED : GOES;
            stepCount = 0;
            collectionCount = 0;
            freedCount = 0;
            printCount = 0;
            thrown = 0L;
            wish = NOTHING;
        }

        void copyFrom(Machine other) {
            things.copyFrom(other.things);
            scopes.copyFrom(other.scopes);
            frames.copyFrom(other.frames);
            prints.copyFrom(other.prints);
            condition = other.condition;
            stepCount = other.stepCount;
            collectionCount = other.collectionCount;
            freedCount = other.freedCount;
            printCount = other.printCount;
            thrown = other.thrown;
            wish = NOTHING;
        }

        Things heap() {
            return things;
        }

        int condition() {
            return condition;
        }

        boolean canGoOn() {
            return condition == GOES;
        }

        int stepCount() {
            return stepCount;
        }

        int depth() {
            return frames.depth();
        }

        int collectionCount() {
            return collectionCount;
        }

        int freedCount() {
            return freedCount;
        }

        int printCount() {
            return printCount;
        }

        long print(int back) {
            return prints.valueAt((printCount - 1 - back) % KEPT_PRINTS);
        }

        long thrownValue() {
            return thrown;
        }

        long variable(int variable) {
            return scopes.value(Scopes.WHOLE, variable);
        }

        void setVariable(int variable, long value) {
            scopes.set(Scopes.WHOLE, variable, value);
        }

        int textPlace() {
            return condition == GOES ? script.first(frames.here()) : -1;
        }

        int newestFunction() {
            return frames.depth() == 0 ? -1 : frames.function(frames.newest());
        }

        int loopDepth() {
            return condition == GOES ? script.second(frames.here()) : 0;
        }

        /** Whether the script, or one of its frames, is in the block of a try with a catch. */
        boolean hasCatch() {
            for (int frame = 0; frame <= frames.depth(); frame++) {
                int record = frames.record(frame);
                for (int entry = 0; entry < frames.entryCount(record); entry++) {
                    if (frames.entryType(record, entry) == Frames.TRYING && frames.entryFirst(record, entry) >= 0) {
                        return true;
                    }
                }
            }
            return false;
        }

        /** Finds the distance of each thing, and tells how many are reached. */
        int lookAround() {
            reach.begin(Reach.NOWHERE);
            reach.takeRoots();
            reach.take(thrown, 1);
            return reach.spread();
        }

        void lookFrom(int thing) {
            reach.begin(Reach.NOWHERE);
            reach.takeStart(thing);
            reach.spread();
        }

        /** The distance of a thing when the machine last looked; NOWHERE if it was not reached. */
        int distanceSeen(int thing) {
            return reach.distanceOf(thing);
        }

        /** How many of the things that it reached as it last looked around it reaches by this one alone. */
        int heldBy(int thing, int reached) {
            if (reach.distanceOf(thing) == Reach.NOWHERE) {
                return 0;
            }
            without.begin(thing);
            without.takeRoots();
            without.take(thrown, 1);
            return reached - without.spread();
        }

        /** Carries out a collection, and tells how many things it frees. */
        int freeUnreached() {
            reach.begin(Reach.NOWHERE);
            reach.takeRoots();
            reach.take(thrown, 1);
            reach.takeScopes(wish == Value.GENERATOR ? newScope : Scopes.WHOLE, 1);
            int unreached = things.count() - reach.spread();
            for (int thing = 0; thing < Things.MOST; thing++) {
                if (things.has(thing) && reach.distanceOf(thing) == Reach.NOWHERE) {
                    things.free(thing);
                }
            }
            things.clearTargets();
            collectionCount++;
            freedCount += unreached;
            return unreached;
        }

        /** Goes on till the machine stands, and as many steps were counted; tells how many were. */
        int go(int limit) {
            counted = 0;
            for (int turn = 0; turn < MOST_TURNS && goesOn(limit); turn++) {
                if (scopes.isFull()) {
                    freeScopes();
                }
                int here = frames.here();
                int operation = script.operation(here);
                if (operation <= Script.PRINT) {
                    performPlain(operation, script.first(here), script.second(here));
                } else if (operation <= Script.OTHER) {
                    performOperator(operation);
                } else if (operation <= Script.CALL) {
                    performThing(operation, script.first(here));
                } else {
                    performFlow(operation, script.first(here), script.second(here));
                }
                boolean isMaking = Value.OBJECT <= wish && wish <= Value.WEAK;
                if (wish == COLLECTION || isMaking && things.count() >= Things.MOST) {
                    freeUnreached();
                }
                if (isMaking) {
                    make();
                }
                if (wish == RETURNING) {
                    giveBack();
                }
                if (wish == THROWING) {
                    passOn();
                }
                wish = NOTHING;
            }
            stepCount += counted;
            return counted;
        }

        /** Throws the symbol of a word where the machine stands. */
        void strike(int word) {
            raise(word);
            passOn();
            wish = NOTHING;
        }

        private boolean goesOn(int limit) {
            return condition == GOES && (counted < limit || script.operation(frames.here()) != Script.STEP);
        }

        private void freeScopes() {
            scopes.keepNone();
            for (int thing = 0; thing < Things.MOST; thing++) {
                if (things.is(thing, Value.FUNCTION)) {
                    scopes.keep(things.scope(thing));
                } else if (things.is(thing, Value.GENERATOR) && things.progress(thing) != Things.ENDED) {
                    scopes.keep(frames.scope(Frames.OF_GENERATORS + thing));
                }
            }
            for (int frame = 1; frame <= frames.depth(); frame++) {
                scopes.keep(frames.scope(frames.record(frame)));
            }
            scopes.freeOthers();
        }

        private void raise(int word) {
            carried = Value.pack(Value.SYMBOL, word);
            wish = THROWING;
        }

        /** Wishes that a value is thrown or returned. */
        private void carry(int what, long value) {
            carried = value;
            wish = what;
        }

        /** Passes on what was thrown, to the frame that catches it, or has a finally for it. */
        private void passOn() {
            boolean open = true;
            for (int n = 0; n <= Frames.MOST && open; n++) {
                if (isTakenOver(Frames.THROWS, carried, 0)) {
                    open = false;
                } else if (frames.depth() == 0) {
                    condition = FAILED;
                    thrown = carried;
                    open = false;
                } else {
                    endFrame();
                }
            }
        }

        /** Ends the newest frame, and tells its record. */
        private int endFrame() {
            int record = frames.newest();
            frames.exit();
            if (record >= Frames.OF_GENERATORS) {
                things.setProgress(record - Frames.OF_GENERATORS, Things.ENDED);
            }
            return record;
        }

        /**
         * Leaves blocks of the newest frame, till it has this many entries; tells whether a catch or a finally
         * takes over before.
         */
        private boolean isTakenOver(int how, long what, int level) {
            frames.dropAll();
            int record = frames.newest();
            for (int n = 0; n < Frames.MOST_ENTRIES && frames.entryCount(record) > level; n++) {
                int entry = frames.entryCount(record) - 1;
                if (frames.entryType(record, entry) == Frames.TRYING) {
                    int catchAt = (int) frames.entryFirst(record, entry);
                    int finallyAt = frames.entrySecond(record, entry);
                    if (how == Frames.THROWS && catchAt >= 0) {
                        frames.setEntry(Frames.TRYING, -1L, finallyAt);
                        frames.push(what);
                        frames.goTo(catchAt);
                        return true;
                    }
                    if (finallyAt >= 0) {
                        frames.setEntry(how, what, level);
                        frames.goTo(finallyAt);
                        return true;
                    }
                }
                frames.dropEntry();
            }
            return false;
        }

        private void performPlain(int operation, int first, int second) {
            switch (operation) {
                case Script.STEP:
                    counted++;
                    frames.goOn();
                    break;
                case Script.PUSH:
                    goOnWith(Value.pack(first, second));
                    break;
                case Script.SELF:
                    goOnWith(frames.self(frames.newest()));
                    break;
                case Script.LOAD:
                    goOnWith(scopes.value(scopeOut(first), second));
                    break;
                case Script.STORE:
                    scopes.set(scopeOut(first), second, frames.pop());
                    frames.goOn();
                    break;
                case Script.DROP:
                    frames.pop();
                    frames.goOn();
                    break;
                case Script.JUMP:
                    frames.goTo(first);
                    break;
                case Script.UNLESS:
                    jumpUnless(first);
                    break;
                case Script.AND:
                case Script.OR:
                    decide(first, operation == Script.OR);
                    break;
                case Script.PRINT:
                    prints.put(printCount % KEPT_PRINTS, frames.pop());
                    printCount++;
                    frames.goOn();
                    break;
                default:
                    condition = ENDED;
            }
        }

        private void goOnWith(long value) {
            frames.push(value);
            frames.goOn();
        }

        private int scopeOut(int count) {
            return scopes.outer(frames.scope(frames.newest()), count);
        }

        private void jumpUnless(int place) {
            if (Value.countsAsTrue(frames.pop())) {
                frames.goOn();
            } else {
                frames.goTo(place);
            }
        }

        /** Keeps the left side of an and or or, if it counts as what decides; otherwise the right one comes. */
        private void decide(int place, boolean what) {
            long left = frames.pop();
            if (Value.countsAsTrue(left) == what) {
                frames.push(left);
                frames.goTo(place);
            } else {
                frames.goOn();
            }
        }

        private void performOperator(int operation) {
            long right = frames.pop();
            if (operation == Script.NOT) {
                goOnWith(Value.truth(!Value.countsAsTrue(right)));
            } else if (operation == Script.NEGATE) {
                negate(right);
            } else {
                operate(operation, frames.pop(), right);
            }
        }

        private void negate(long value) {
            if (Value.isNumber(value)) {
                goOnWith(Value.pack(Value.NUMBER, -Value.number(value)));
            } else {
                raise(TYPE);
            }
        }

        private void operate(int operation, long left, long right) {
            if (operation == Script.SAME || operation == Script.OTHER) {
                goOnWith(Value.truth((left == right) == (operation == Script.SAME)));
            } else if (!Value.isNumber(left) || !Value.isNumber(right)) {
                raise(TYPE);
            } else if (operation >= Script.LESS) {
                goOnWith(Value.truth(holds(operation, Value.number(left), Value.number(right))));
            } else if (operation >= Script.DIVIDE && Value.number(right) == 0) {
                raise(ZERO);
            } else {
                goOnWith(Value.pack(Value.NUMBER, workOut(operation, Value.number(left), Value.number(right))));
            }
        }

        private static boolean holds(int operation, int left, int right) {
            switch (operation) {
                case Script.LESS:
                    return left < right;
                case Script.MORE:
                    return left > right;
                case Script.LESS_EQUAL:
                    return left <= right;
                default:
                    return left >= right;
            }
        }

        private static int workOut(int operation, int left, int right) {
            switch (operation) {
                case Script.ADD:
                    return left + right;
                case Script.SUBTRACT:
                    return left - right;
                case Script.MULTIPLY:
                    return left * right;
                case Script.DIVIDE:
                    return right == 0 ? 0 : left / right;
                default:
                    return right == 0 ? 0 : left % right;
            }
        }

        private void performThing(int operation, int first) {
            switch (operation) {
                case Script.PARENT:
                    needParent();
                    break;
                case Script.READ:
                case Script.METHOD:
                    read(frames.pop(), first, operation == Script.METHOD);
                    break;
                case Script.ASSIGN:
                    assign(first, frames.pop());
                    break;
                case Script.FUNCTION:
                    wish = Value.FUNCTION;
                    break;
                case Script.OBJECT:
                    wish = Value.OBJECT;
                    break;
                case Script.WEAK:
                    wishWeak();
                    break;
                case Script.CALL:
                    call(frames.top() - first - 2, first);
                    break;
                default:
                    // A word of the object that was made ahead of it.
                    frames.goOn();
            }
        }

        private void needParent() {
            if (Value.isObject(frames.operand(frames.top() - 1))) {
                frames.goOn();
            } else {
                raise(TYPE);
            }
        }

        /** Reads a slot; behind the value of a method the object stays, as its self. */
        private void read(long value, int word, boolean isMethod) {
            if (!Value.isObject(value)) {
                raise(TYPE);
                return;
            }
            int holder = things.holder(Value.number(value), word);
            if (holder == Things.NONE) {
                raise(SLOT);
                return;
            }
            frames.push(things.slotValue(holder, things.ownSlot(holder, word)));
            if (isMethod) {
                frames.push(value);
            }
            frames.goOn();
        }

        private void assign(int word, long value) {
            long object = frames.pop();
            if (!Value.isObject(object)) {
                raise(TYPE);
            } else if (!things.assign(Value.number(object), word, value)) {
                raise(FULL);
            } else {
                frames.goOn();
            }
        }

        private void wishWeak() {
            if (Value.isThing(frames.operand(frames.top() - 1))) {
                wish = Value.WEAK;
            } else {
                raise(TYPE);
            }
        }

        /** Calls what stands among the operands at a place, with its self and the values behind it. */
        private void call(int place, int count) {
            long called = frames.operand(place);
            int thing = Value.number(called);
            int function = things.function(thing);
            if (Value.kind(called) == Value.WEAK) {
                callWeak(place, count, things.target(thing));
            } else if (Value.kind(called) != Value.FUNCTION) {
                raise(TYPE);
            } else if (script.inputCount(function) != count) {
                raise(ARGS);
            } else if (script.hasYield(function)) {
                makeScope(thing, place, count);
                // From here on only the function's number in the text is held.
                frames.setOperand(place, Value.pack(Value.NUMBER, function));
                wish = Value.GENERATOR;
            } else if (frames.depth() >= Frames.MOST) {
                raise(DEEP);
            } else {
                makeScope(thing, place, count);
                int record = frames.depth() + 1;
                frames.setUp(record, function, newScope, frames.operand(place + 1), script.entry(function));
                frames.dropTo(place);
                frames.enter(record);
                counted++;
            }
        }

        private void callWeak(int place, int count, int target) {
            if (count > 0) {
                raise(ARGS);
            } else {
                frames.dropTo(place);
                goOnWith(things.value(target));
            }
        }

        /** Makes the scope of a call of a function that stands at a place. */
        private void makeScope(int function, int place, int count) {
            newScope = scopes.make(things.scope(function));
            for (int input = 0; input < count; input++) {
                scopes.set(newScope, input, frames.operand(place + 2 + input));
            }
        }

        /** Makes the thing that is wished, of what was worked out for it. */
        private void make() {
            if (things.count() >= Things.MOST) {
                raise(FULL);
                return;
            }
            int here = frames.here();
            int first = script.first(here);
            int thing = things.make(wish);
            if (wish == Value.FUNCTION) {
                things.setFunction(thing, first);
                things.setScope(thing, frames.scope(frames.newest()));
            } else if (wish == Value.OBJECT) {
                fillObject(thing, here, frames.top() - first);
            } else if (wish == Value.WEAK) {
                things.setTarget(thing, Value.number(frames.pop()));
            } else {
                fillGenerator(thing, frames.top() - first - 2);
            }
            counted++;
            goOnWith(Value.pack(wish, thing));
        }

        /** Gives an object its slots, whose words stand behind an instruction, and its parent. */
        private void fillObject(int object, int here, int place) {
            for (int slot = 0; slot < script.first(here); slot++) {
                things.assign(object, script.first(here + 1 + slot), frames.operand(place + slot));
            }
            int parents = script.second(here);
            if (parents > 0) {
                things.setParent(object, Value.number(frames.operand(place - 1)));
            }
            frames.dropTo(place - parents);
        }

        private void fillGenerator(int generator, int place) {
            int function = Value.number(frames.operand(place));
            things.setFunction(generator, function);
            int record = Frames.OF_GENERATORS + generator;
            frames.setUp(record, function, newScope, frames.operand(place + 1), script.entry(function));
            frames.dropTo(place);
        }

        private void performFlow(int operation, int first, int second) {
            switch (operation) {
                case Script.NEXT:
                    next(frames.pop());
                    break;
                case Script.LOOP:
                    startLoop(frames.pop());
                    break;
                case Script.ROUND:
                    startRound(first);
                    break;
                case Script.TRY:
                    frames.addEntry(Frames.TRYING, first, second);
                    frames.goOn();
                    break;
                case Script.TRIED:
                    endTried(first);
                    break;
                case Script.FINISH:
                    finish();
                    break;
                case Script.LEAVE:
                    leave(first, second);
                    break;
                case Script.RETURN:
                    carry(RETURNING, frames.pop());
                    break;
                case Script.YIELD:
                    handOn(frames.pop());
                    break;
                case Script.THROW:
                    carry(THROWING, frames.pop());
                    break;
                default:
                    wish = COLLECTION;
                    frames.goOn();
            }
        }

        private void next(long value) {
            if (Value.kind(value) == Value.GENERATOR) {
                ask(Value.number(value));
            } else {
                raise(TYPE);
            }
        }

        /** Asks a generator; what asks stays at its instruction till there is an answer. */
        private void ask(int generator) {
            int progress = things.progress(generator);
            if (progress == Things.ENDED) {
                tellEnd();
            } else if (progress == Things.RUNNING) {
                raise(BUSY);
            } else if (frames.depth() >= Frames.MOST) {
                raise(DEEP);
            } else {
                things.setProgress(generator, Things.RUNNING);
                frames.enter(Frames.OF_GENERATORS + generator);
                counted++;
            }
        }

        /** Tells what asked a generator that this has ended. */
        private void tellEnd() {
            int here = frames.here();
            if (script.operation(here) == Script.ROUND) {
                frames.dropEntry();
                frames.goTo(script.first(here));
            } else {
                raise(DONE);
            }
        }

        private void startLoop(long value) {
            if (Value.isNumber(value)) {
                frames.addEntry(Frames.COUNTING, 0L, Value.number(value));
                frames.goOn();
            } else if (Value.kind(value) == Value.GENERATOR) {
                frames.addEntry(Frames.ASKING, value, 0);
                frames.goOn();
            } else {
                raise(TYPE);
            }
        }

        /** Begins the next round of the innermost for, which goes on at a place as it is over. */
        private void startRound(int over) {
            int record = frames.newest();
            int entry = frames.entryCount(record) - 1;
            long first = frames.entryFirst(record, entry);
            int limit = frames.entrySecond(record, entry);
            if (frames.entryType(record, entry) == Frames.ASKING) {
                ask(Value.number(first));
            } else if (first < limit) {
                frames.setEntry(Frames.COUNTING, first + 1L, limit);
                goOnWith(Value.pack(Value.NUMBER, (int) first));
            } else {
                frames.dropEntry();
                frames.goTo(over);
            }
        }

        /** Ends the block of a try or of a catch; behind it comes its finally, or a place. */
        private void endTried(int place) {
            int record = frames.newest();
            int finallyAt = frames.entrySecond(record, frames.entryCount(record) - 1);
            if (finallyAt >= 0) {
                frames.setEntry(Frames.GOES_ON, 0L, 0);
                frames.goTo(finallyAt);
            } else {
                frames.dropEntry();
                frames.goTo(place);
            }
        }

        /** Ends the block of a finally; what ended the block ahead of it goes on. */
        private void finish() {
            int record = frames.newest();
            int entry = frames.entryCount(record) - 1;
            int how = frames.entryType(record, entry);
            long what = frames.entryFirst(record, entry);
            int level = frames.entrySecond(record, entry);
            frames.dropEntry();
            if (how == Frames.THROWS) {
                carry(THROWING, what);
            } else if (how == Frames.RETURNS) {
                carry(RETURNING, what);
            } else if (how == Frames.JUMPS) {
                leave((int) what, level);
            } else {
                frames.goOn();
            }
        }

        /** Goes to a place at which the newest frame has this many entries. */
        private void leave(int place, int level) {
            if (!isTakenOver(Frames.JUMPS, place, level)) {
                frames.goTo(place);
            }
        }

        /** Returns from the newest frame with the value that is carried. */
        private void giveBack() {
            if (isTakenOver(Frames.RETURNS, carried, 0)) {
                return;
            }
            if (endFrame() >= Frames.OF_GENERATORS) {
                tellEnd();
            } else {
                goOnWith(carried);
            }
        }

        /** Hands a value on to what asked the generator whose frame is the newest. */
        private void handOn(long value) {
            frames.goOn();
            things.setProgress(frames.newest() - Frames.OF_GENERATORS, Things.WAITING);
            frames.exit();
            goOnWith(value);
        }
    }
}
