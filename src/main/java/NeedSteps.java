/**
 * A lazy program as a graph of nodes, worked out step by step by need. The promises that the
 * comments name are those of DOC.md.
 */
public final class NeedSteps {
    public static final int BAD = -1, FULL = -2, NO = -3;

    private static final int MOST_BYTES = 800;
    private static final int MOST_DEFINITIONS = 20;
    private static final int MOST_PARAMETERS = 8;
    private static final int MOST_ATOMS = 10;
    private static final int MOST_BINDINGS = 6;
    private static final int MOST_OPEN = 12;
    private static final int MOST_DIGITS = 9;
    private static final int MOST_LETTERS = 8;
    private static final int MOST_NODES = 400;
    private static final int MOST_PLACES = 600;
    private static final int MOST_STEPS = 5000;
    private static final int MOST_STEPS_A_CALL = 2000;
    private static final int BYTES_A_FEED = 20;

    /** Where a node, a place or a definition could stand, and none does. */
    private static final int NONE = -1;

    private static final int GOES_ON = 0, AT_REST = 1, IN_ERROR = 2, IS_FULL = 3;

    private final Tape tape = new Tape();
    private final Program program = new Program();
    private final Reader reader = new Reader(new Tokens(tape), program);
    private final Graph graph = new Graph();
    private final Stacks stacks = new Stacks();
    private final Machine machine = new Machine(program, graph, stacks);
    private final Keeper keeper = new Keeper(program, graph, stacks);

    /** sweptAt[s]: nodes were swept away when s STEPS had been done. */
    private final boolean[] sweptAt = new boolean[MOST_STEPS + 1];

    private boolean hasProgram = false;
    private int fault = 0;
    private int state = GOES_ON;
    private int error = 0;
    private int stop = NONE;

    public NeedSteps() {
    }

    public int feed(int a, int b, int c, int d, int e) {
        if (tape.size() > MOST_BYTES - BYTES_A_FEED) {
            return FULL;
        }
        tape.put(a);
        tape.put(b);
        tape.put(c);
        tape.put(d);
        tape.put(e);
        return tape.size();
    }

    public int cut(int n) {
        if (n < 0 || n > tape.size()) {
            return BAD;
        }
        return tape.keepFirst(n);
    }

    public int read() {
        reader.readProgram();
        tape.keepFirst(0);
        fault = reader.faultFound();
        hasProgram = fault == 0;
        if (!hasProgram) {
            return -10 - reader.faultPlace();
        }
        forgetSweeps(0);
        machine.begin();
        goOn();
        stop = NONE;
        return program.size();
    }

    public int fault() {
        return fault;
    }

    // ---- steps

    public int step(int n) {
        if (!hasProgram) {
            return NO;
        }
        if (n < 1 || n > MOST_STEPS_A_CALL) {
            return BAD;
        }
        int done = 0;
        for (; done < n; done++) {
            if (done > 0 && machine.wouldMake(stop)) {
                break;
            }
            state = machine.attempt();
            error = machine.errorFound();
            if (state != GOES_ON) {
                break;
            }
        }
        return done;
    }

    public int state() {
        return hasProgram ? state : NO;
    }

    public int error() {
        return hasProgram ? error : NO;
    }

    public int next() {
        return hasProgram ? machine.look() : NO;
    }

    public int stopAt(int definition) {
        if (!hasProgram) {
            return NO;
        }
        if (definition < NONE || definition >= program.size()) {
            return BAD;
        }
        int before = stop;
        stop = definition;
        return before;
    }

    /**
     * The same STEPS and sweeps always come to the same nodes: doing them again from the
     * beginning needs no memory of what each of them changed.
     */
    public int back(int n) {
        if (!hasProgram) {
            return NO;
        }
        int steps = machine.stepsDone() - n;
        if (n < 0 || steps < 0) {
            return BAD;
        }
        goOn();
        if (n == 0) {
            return steps;
        }
        forgetSweeps(steps + 1);
        machine.begin();
        for (int s = 0; s <= steps && s < sweptAt.length; s++) {
            if (sweptAt[s]) {
                keeper.freeTheRest();
            }
            if (s < steps) {
                machine.attempt();
            }
        }
        return steps;
    }

    public int sweep() {
        if (!hasProgram) {
            return NO;
        }
        int freed = keeper.freeTheRest();
        int now = machine.stepsDone();
        if (freed > 0 && now >= 0 && now < sweptAt.length) {
            sweptAt[now] = true;
        }
        goOn();
        return freed;
    }

    // ---- what there is

    public int count(int what) {
        if (!hasProgram) {
            return NO;
        }
        switch (what) {
            case 0: return graph.used();
            case 1: return keeper.countKept();
            case 2: return stacks.height();
            case 3: return stacks.dumped();
            case 4: return machine.stepsDone();
            case 5: return graph.made();
            case 6: return graph.most();
            default: return BAD;
        }
    }

    public int node(int node, int what) {
        if (!hasProgram) {
            return NO;
        }
        if (graph.isFree(node)) {
            return BAD;
        }
        switch (what) {
            case 0: return graph.kindOf(node);
            case 1: return graph.firstOf(node);
            case 2: return graph.secondOf(node);
            case 3: return graph.makerOf(node);
            case 4: return keeper.placesThatHave(node);
            case 5: return keeper.keeps(node) ? 1 : 0;
            default: return BAD;
        }
    }

    public int top(int place) {
        if (!hasProgram) {
            return NO;
        }
        int node = stacks.fromTop(place);
        return node == NONE ? BAD : node;
    }

    public int why(int i) {
        if (!hasProgram) {
            return NO;
        }
        int node = stacks.topOfDumped(i);
        return node == NONE ? BAD : node;
    }

    public int way(int node, int k) {
        if (!hasProgram) {
            return NO;
        }
        int length = keeper.wayTo(node);
        if (length == 0 || k < -1 || k >= length) {
            return BAD;
        }
        return k == -1 ? length : keeper.onWay(node, k);
    }

    public int profile(int definition, int what) {
        if (!hasProgram) {
            return NO;
        }
        if (definition < 0 || definition >= program.size() || what < 0 || what > 1) {
            return BAD;
        }
        return what == 0 ? machine.timesMade(definition) : machine.nodesMadeBy(definition);
    }

    public int rest() {
        if (!hasProgram || state != AT_REST) {
            return NO;
        }
        switch (graph.kindOf(stacks.fromTop(0))) {
            case Graph.NUMBER: return 0;
            case Graph.PAIR: return 1;
            case Graph.NIL: return 2;
            default: return 3;
        }
    }

    public int share() throws ArithmeticException {
        int used = graph.used();
        if (!hasProgram || used == 0) {
            throw new ArithmeticException("there is no program");
        }
        return 1000 * keeper.countKept() / used;
    }

    private void goOn() {
        state = GOES_ON;
        error = 0;
    }

    /** Sweeps are noted only up to the STEPS that were done: there is nothing beyond. */
    private void forgetSweeps(int from) {
        for (int s = from; s >= 0 && s <= machine.stepsDone() && s < sweptAt.length; s++) {
            sweptAt[s] = false;
        }
    }

    /** THE TAPE: bytes that wait to be read. */
    private static final class Tape {
        private final byte[] bytes = new byte[MOST_BYTES];
        private int length = 0;

        int size() {
            return length;
        }

        void put(int number) {
            for (int shift = 24; shift >= 0 && length < bytes.length; shift -= 8) {
                bytes[length] = (byte) (number >> shift);
                length++;
            }
        }

        int keepFirst(int n) {
            int gone = length - n;
            length = n;
            return gone;
        }

        /** The byte, 0 to 255; NONE outside THE TAPE. */
        int byteAt(int place) {
            if (place < 0 || place >= length || place >= bytes.length) {
                return NONE;
            }
            return bytes[place] & 255;
        }
    }

    /** THE TAPE's TOKENS, one at hand at a time. */
    private static final class Tokens {
        static final int END = 0, NUMBER = 1, NAME = 2, PRIMITIVE = 3, LET = 4, IN = 5;
        static final int EQUALS = 6, SEMICOLON = 7, OPEN = 8, CLOSE = 9, NO_TOKEN = 10;

        /** The PRIMITIVES by their numbers, then let and in; each has a blank behind it. */
        private static final String WORDS =
            "add sub mul quo less same if cons nil head tail empty seq let in ";
        private static final int PRIMITIVES = 13;

        private final Tape tape;
        private final long[] words = new long[PRIMITIVES + 2];
        private int at = 0;
        private int kind = END;
        private int place = 0;
        private int value = 0;
        private long name = 0;

        Tokens(Tape tape) {
            this.tape = tape;
            int word = 0;
            long letters = 0;
            for (int i = 0; i < WORDS.length() && word < words.length; i++) {
                char c = WORDS.charAt(i);
                if (c == ' ') {
                    words[word] = letters;
                    word++;
                    letters = 0;
                } else {
                    letters = letters << 8 | c;
                }
            }
        }

        int kind() {
            return kind;
        }

        /** Where the token at hand begins. */
        int place() {
            return place;
        }

        /** The NUMBER, or the PRIMITIVE's number. */
        int value() {
            return value;
        }

        /** The NAME, a byte of it in each byte: two NAMES are the same if these are. */
        long name() {
            return name;
        }

        int end() {
            return tape.size();
        }

        void begin() {
            at = 0;
            advance();
        }

        void advance() {
            int c = tape.byteAt(at);
            while (at < tape.size() && (c == ' ' || c == '\n')) {
                at++;
                c = tape.byteAt(at);
            }
            place = at;
            if (c == NONE) {
                kind = END;
            } else if (isDigit(c)) {
                takeNumber();
            } else if (isLetter(c)) {
                takeWord();
            } else {
                kind = signOf(c);
                at++;
            }
        }

        private void takeNumber() {
            value = 0;
            for (; at < tape.size() && isDigit(tape.byteAt(at)); at++) {
                value = value * 10 + tape.byteAt(at) - '0';
            }
            kind = at - place <= MOST_DIGITS ? NUMBER : NO_TOKEN;
        }

        private void takeWord() {
            name = 0;
            for (; at < tape.size() && isLetterOrDigit(tape.byteAt(at)); at++) {
                name = name << 8 | tape.byteAt(at);
            }
            kind = at - place <= MOST_LETTERS ? kindOfWord() : NO_TOKEN;
        }

        private int kindOfWord() {
            for (int word = 0; word < words.length; word++) {
                if (words[word] == name) {
                    value = word;
                    return word < PRIMITIVES ? PRIMITIVE : word == PRIMITIVES ? LET : IN;
                }
            }
            return NAME;
        }

        private static int signOf(int c) {
            switch (c) {
                case '=': return EQUALS;
                case ';': return SEMICOLON;
                case '(': return OPEN;
                case ')': return CLOSE;
                default: return NO_TOKEN;
            }
        }

        private static boolean isDigit(int c) {
            return c >= '0' && c <= '9';
        }

        private static boolean isLetter(int c) {
            return c >= 'a' && c <= 'z';
        }

        private static boolean isLetterOrDigit(int c) {
            return c >= 'a' && c <= 'z' || c >= '0' && c <= '9';
        }
    }

    /**
     * The DEFINITIONS. An EXPR is kept as a row of deeds in the order in which its nodes are
     * MADE, so that making needs no recursion.
     */
    private static final class Program {
        /** Deeds; what they tell stands in "about": a number, a slot, how many. */
        static final int NUMBER = 0, PRIMITIVE = 1, DEFINITION = 2, PARAMETER = 3, BOUND = 4;
        static final int APPLIES = 5, POINTERS = 6, BIND = 7, UNTOLD = 8;

        private final long[] names = new long[MOST_DEFINITIONS];
        private final int[] parameters = new int[MOST_DEFINITIONS];
        private final int[] begins = new int[MOST_DEFINITIONS];
        private final int[] ends = new int[MOST_DEFINITIONS];
        private final int[] nodes = new int[MOST_DEFINITIONS];
        private int size = 0;

        /** No deed without a byte of its own: there are never more of them than bytes. */
        private final int[] deeds = new int[MOST_BYTES];
        private final int[] abouts = new int[MOST_BYTES];
        private final int[] firstSlots = new int[MOST_BYTES];
        private final long[] deedNames = new long[MOST_BYTES];
        private final int[] deedPlaces = new int[MOST_BYTES];
        private int deedCount = 0;

        void clear() {
            size = 0;
            deedCount = 0;
        }

        int size() {
            return size;
        }

        int deedCount() {
            return deedCount;
        }

        void openDefinition(long name) {
            if (size < MOST_DEFINITIONS) {
                names[size] = name;
                parameters[size] = 0;
                begins[size] = deedCount;
                ends[size] = deedCount;
                nodes[size] = 0;
                size++;
            }
        }

        void closeDefinition(int parameterCount) {
            int d = size - 1;
            if (d >= 0 && d < MOST_DEFINITIONS) {
                parameters[d] = parameterCount;
                ends[d] = deedCount;
                nodes[d] = countNodes(begins[d]);
            }
        }

        private int countNodes(int from) {
            int sum = 0;
            for (int i = from; i < deedCount; i++) {
                switch (deedAt(i)) {
                    case NUMBER:
                    case PRIMITIVE:
                        sum++;
                        break;
                    case APPLIES:
                        sum += aboutAt(i) - 1;
                        break;
                    case POINTERS:
                        sum += aboutAt(i);
                        break;
                    default:
                        break;
                }
            }
            return sum;
        }

        int definitionOf(long name) {
            for (int d = 0; d < size && d < MOST_DEFINITIONS; d++) {
                if (names[d] == name) {
                    return d;
                }
            }
            return NONE;
        }

        int parametersOf(int d) {
            return isDefinition(d) ? parameters[d] : 0;
        }

        int nodesOf(int d) {
            return isDefinition(d) ? nodes[d] : 0;
        }

        int beginOf(int d) {
            return isDefinition(d) ? begins[d] : 0;
        }

        int endOf(int d) {
            return isDefinition(d) ? ends[d] : 0;
        }

        private static boolean isDefinition(int d) {
            return d >= 0 && d < MOST_DEFINITIONS;
        }

        void addDeed(int deed, int about) {
            addDeed(deed, about, 0, 0);
        }

        void addName(long name, int place) {
            addDeed(UNTOLD, 0, name, place);
        }

        private void addDeed(int deed, int about, long name, int place) {
            if (deedCount < MOST_BYTES) {
                deeds[deedCount] = deed;
                abouts[deedCount] = about;
                firstSlots[deedCount] = 0;
                deedNames[deedCount] = name;
                deedPlaces[deedCount] = place;
                deedCount++;
            }
        }

        /** How many POINTERS a let begins with is known only behind its last BINDING. */
        void settlePointers(int i, int howMany, int firstSlot) {
            if (isDeed(i)) {
                abouts[i] = howMany;
                firstSlots[i] = firstSlot;
            }
        }

        /** The NAMES from deed "from" on that nothing nearer has told mean this. */
        void tell(int from, long name, int deed, int about) {
            for (int i = from < 0 ? 0 : from; i < deedCount && i < MOST_BYTES; i++) {
                if (deeds[i] == UNTOLD && deedNames[i] == name) {
                    deeds[i] = deed;
                    abouts[i] = about;
                }
            }
        }

        /** The place of the first NAME that nothing has told; NONE: there is none. */
        int firstUntold() {
            for (int i = 0; i < deedCount && i < MOST_BYTES; i++) {
                if (deeds[i] == UNTOLD) {
                    return deedPlaces[i];
                }
            }
            return NONE;
        }

        void tellDefinitions() {
            for (int d = 0; d < size && d < MOST_DEFINITIONS; d++) {
                tell(0, names[d], DEFINITION, d);
            }
        }

        int deedAt(int i) {
            return isDeed(i) ? deeds[i] : UNTOLD;
        }

        int aboutAt(int i) {
            return isDeed(i) ? abouts[i] : 0;
        }

        int firstSlotAt(int i) {
            return isDeed(i) ? firstSlots[i] : 0;
        }

        private static boolean isDeed(int i) {
            return i >= 0 && i < MOST_BYTES;
        }
    }

    /** Reads a PROGRAM. Each of its parts answers whether it was read without a FAULT. */
    private static final class Reader {
        private static final int NO_TOKEN = 1, CANNOT_STAND = 2, TOO_MANY = 3, TOLD_ALREADY = 4;
        private static final int NOT_TOLD = 5, NO_MAIN = 6;

        /** main, as a NAME is kept. */
        private static final long MAIN = 0x6d61696eL;

        private final Tokens tokens;
        private final Program program;
        private final long[] parameters = new long[MOST_PARAMETERS];

        /** The NAMES of the lets that are open: the slots of one begin at six times its depth. */
        private final long[] bound = new long[MOST_OPEN * MOST_BINDINGS];
        private int fault = 0;
        private int faultPlace = 0;

        Reader(Tokens tokens, Program program) {
            this.tokens = tokens;
            this.program = program;
        }

        int faultFound() {
            return fault;
        }

        int faultPlace() {
            return faultPlace;
        }

        void readProgram() {
            fault = 0;
            faultPlace = 0;
            program.clear();
            tokens.begin();
            boolean fine = readDefinition();
            for (int d = 1; fine && d <= MOST_DEFINITIONS && tokens.kind() != Tokens.END; d++) {
                fine = readDefinition();
            }
            if (fine) {
                checkNames();
            }
        }

        private void checkNames() {
            program.tellDefinitions();
            int untold = program.firstUntold();
            int main = program.definitionOf(MAIN);
            if (untold != NONE) {
                fail(NOT_TOLD, untold);
            } else if (main == NONE || program.parametersOf(main) > 0) {
                fail(NO_MAIN, tokens.end());
            }
        }

        private boolean readDefinition() {
            if (tokens.kind() != Tokens.NAME) {
                return cannotStand();
            }
            if (program.size() == MOST_DEFINITIONS) {
                return fail(TOO_MANY, tokens.place());
            }
            if (program.definitionOf(tokens.name()) != NONE) {
                return fail(TOLD_ALREADY, tokens.place());
            }
            program.openDefinition(tokens.name());
            tokens.advance();
            int from = program.deedCount();
            int count = readParameters();
            if (count == NONE || !take(Tokens.EQUALS) || !readExpr(0) || !take(Tokens.SEMICOLON)) {
                return false;
            }
            for (int p = 0; p < count && p < parameters.length; p++) {
                program.tell(from, parameters[p], Program.PARAMETER, p);
            }
            program.closeDefinition(count);
            return true;
        }

        /** How many there are; NONE: a FAULT. */
        private int readParameters() {
            int count = 0;
            for (; count <= MOST_PARAMETERS && tokens.kind() == Tokens.NAME; count++) {
                if (count >= parameters.length) {
                    fail(TOO_MANY, tokens.place());
                    return NONE;
                }
                if (has(parameters, 0, count, tokens.name())) {
                    fail(TOLD_ALREADY, tokens.place());
                    return NONE;
                }
                parameters[count] = tokens.name();
                tokens.advance();
            }
            return count;
        }

        private boolean readExpr(int open) {
            return tokens.kind() == Tokens.LET ? readLet(open) : readAtoms(open);
        }

        private boolean readLet(int open) {
            if (open >= MOST_OPEN) {
                return fail(TOO_MANY, tokens.place());
            }
            tokens.advance();
            int firstSlot = open * MOST_BINDINGS;
            int from = program.deedCount();
            program.addDeed(Program.POINTERS, 0);
            int count = 0;
            boolean fine = readBinding(open, count);
            for (count = 1; fine && count <= MOST_BINDINGS && tokens.kind() != Tokens.IN; count++) {
                fine = readBinding(open, count);
            }
            if (!fine || !take(Tokens.IN)) {
                return false;
            }
            program.settlePointers(from, count, firstSlot);
            if (!readExpr(open + 1)) {
                return false;
            }
            for (int slot = firstSlot; slot < firstSlot + count && slot < bound.length; slot++) {
                program.tell(from, bound[slot], Program.BOUND, slot);
            }
            return true;
        }

        private boolean readBinding(int open, int index) {
            int firstSlot = open * MOST_BINDINGS;
            int slot = firstSlot + index;
            if (tokens.kind() != Tokens.NAME) {
                return cannotStand();
            }
            if (index >= MOST_BINDINGS || slot < 0 || slot >= bound.length) {
                return fail(TOO_MANY, tokens.place());
            }
            if (has(bound, firstSlot, slot, tokens.name())) {
                return fail(TOLD_ALREADY, tokens.place());
            }
            bound[slot] = tokens.name();
            tokens.advance();
            if (!take(Tokens.EQUALS) || !readExpr(open + 1) || !take(Tokens.SEMICOLON)) {
                return false;
            }
            program.addDeed(Program.BIND, slot);
            return true;
        }

        private boolean readAtoms(int open) {
            int count = 0;
            for (; count <= MOST_ATOMS && beginsAtom(); count++) {
                if (count == MOST_ATOMS) {
                    return fail(TOO_MANY, tokens.place());
                }
                if (!readAtom(open)) {
                    return false;
                }
            }
            if (count == 0) {
                return cannotStand();
            }
            if (count > 1) {
                program.addDeed(Program.APPLIES, count);
            }
            return true;
        }

        private boolean beginsAtom() {
            int kind = tokens.kind();
            return kind == Tokens.NUMBER || kind == Tokens.PRIMITIVE || kind == Tokens.NAME
                || kind == Tokens.OPEN;
        }

        private boolean readAtom(int open) {
            switch (tokens.kind()) {
                case Tokens.NUMBER:
                    program.addDeed(Program.NUMBER, tokens.value());
                    break;
                case Tokens.PRIMITIVE:
                    program.addDeed(Program.PRIMITIVE, tokens.value());
                    break;
                case Tokens.NAME:
                    program.addName(tokens.name(), tokens.place());
                    break;
                default:
                    return readWithin(open);
            }
            tokens.advance();
            return true;
        }

        private boolean readWithin(int open) {
            if (open >= MOST_OPEN) {
                return fail(TOO_MANY, tokens.place());
            }
            tokens.advance();
            return readExpr(open + 1) && take(Tokens.CLOSE);
        }

        private boolean take(int kind) {
            if (tokens.kind() != kind) {
                return cannotStand();
            }
            tokens.advance();
            return true;
        }

        private boolean cannotStand() {
            int code = tokens.kind() == Tokens.NO_TOKEN ? NO_TOKEN : CANNOT_STAND;
            return fail(code, tokens.place());
        }

        private boolean fail(int code, int place) {
            fault = code;
            faultPlace = place;
            return false;
        }

        private static boolean has(long[] names, int from, int to, long name) {
            for (int i = from < 0 ? 0 : from; i < to && i < names.length; i++) {
                if (names[i] == name) {
                    return true;
                }
            }
            return false;
        }
    }

    /** The NODES. */
    private static final class Graph {
        static final int FREE = -1, NUMBER = 0, APPLY = 1, FUNCTION = 2, PRIMITIVE = 3;
        static final int PAIR = 4, NIL = 5, POINTER = 6;

        private final int[] kinds = new int[MOST_NODES];
        private final int[] firsts = new int[MOST_NODES];
        private final int[] seconds = new int[MOST_NODES];
        private final int[] makers = new int[MOST_NODES];
        private int used = 0;
        private int made = 0;
        private int most = 0;

        /** No node below this number is free. */
        private int search = 0;

        /** The DEFINITION that is being MADE. */
        private int maker = NO;

        void clear() {
            for (int node = 0; node < MOST_NODES; node++) {
                kinds[node] = FREE;
            }
            used = 0;
            made = 0;
            most = 0;
            search = 0;
            maker = NO;
        }

        int used() {
            return used;
        }

        int made() {
            return made;
        }

        int most() {
            return most;
        }

        boolean hasRoom(int more) {
            return used + more <= MOST_NODES;
        }

        void workFor(int definition) {
            maker = definition;
        }

        /** The new node; NONE when there is no free one. */
        int add(int kind, int first, int second) {
            int node = search < 0 ? 0 : search;
            while (node < MOST_NODES && kinds[node] != FREE) {
                node++;
            }
            if (node >= MOST_NODES) {
                return NONE;
            }
            kinds[node] = kind;
            firsts[node] = first;
            seconds[node] = second;
            makers[node] = maker;
            search = node + 1;
            used++;
            made++;
            most = used > most ? used : most;
            return node;
        }

        /** The same node, and as old, is another thing now. */
        void become(int node, int kind, int first, int second) {
            if (node >= 0 && node < MOST_NODES) {
                kinds[node] = kind;
                firsts[node] = first;
                seconds[node] = second;
            }
        }

        void free(int node) {
            if (!isFree(node)) {
                become(node, FREE, 0, NO);
                used--;
                search = node < search ? node : search;
            }
        }

        boolean isFree(int node) {
            return kindOf(node) == FREE;
        }

        /** FREE also where there can be no node. */
        int kindOf(int node) {
            return node >= 0 && node < MOST_NODES ? kinds[node] : FREE;
        }

        int firstOf(int node) {
            return node >= 0 && node < MOST_NODES ? firsts[node] : NONE;
        }

        int secondOf(int node) {
            return node >= 0 && node < MOST_NODES ? seconds[node] : NO;
        }

        int makerOf(int node) {
            return node >= 0 && node < MOST_NODES ? makers[node] : NO;
        }

        boolean hasTwo(int node) {
            int kind = kindOf(node);
            return kind == APPLY || kind == PAIR;
        }

        boolean hasOne(int node) {
            return kindOf(node) == POINTER;
        }

        /** POINTERS followed; NONE: they are a ring. */
        int followed(int node) {
            int at = node;
            for (int hops = 0; hops <= MOST_NODES; hops++) {
                if (kindOf(at) != POINTER) {
                    return at;
                }
                at = firstOf(at);
            }
            return NONE;
        }
    }

    /** The STACK and those on the DUMP, one behind the other in one row. */
    private static final class Stacks {
        private final int[] places = new int[MOST_PLACES];
        private final int[] begins = new int[MOST_PLACES];
        private int size = 0;
        private int dumped = 0;

        void begin(int node) {
            size = 0;
            dumped = 0;
            begins[0] = 0;
            push(node);
        }

        int size() {
            return size;
        }

        int dumped() {
            return dumped;
        }

        boolean hasRoom() {
            return size < MOST_PLACES;
        }

        int height() {
            return size - beginOf(dumped);
        }

        private int beginOf(int stack) {
            return stack >= 0 && stack < MOST_PLACES ? begins[stack] : 0;
        }

        /** The node at a place of the whole row. */
        int at(int place) {
            return place >= 0 && place < size && place < MOST_PLACES ? places[place] : NONE;
        }

        int fromTop(int place) {
            return place >= 0 && place < height() ? at(size - 1 - place) : NONE;
        }

        int topOfDumped(int i) {
            return i >= 0 && i < dumped ? at(beginOf(dumped - i) - 1) : NONE;
        }

        void push(int node) {
            if (size >= 0 && size < MOST_PLACES) {
                places[size] = node;
                size++;
            }
        }

        void pop(int howMany) {
            size -= howMany < height() ? howMany : height();
        }

        void putOnDump(int node) {
            if (hasRoom() && dumped >= 0 && dumped < MOST_PLACES - 1) {
                dumped++;
                begins[dumped] = size;
                push(node);
            }
        }

        void takeFromDump() {
            if (dumped > 0) {
                size = beginOf(dumped);
                dumped--;
            }
        }

        boolean hasAsLowest(int node) {
            for (int stack = 0; stack <= dumped; stack++) {
                if (at(beginOf(stack)) == node) {
                    return true;
                }
            }
            return false;
        }
    }

    /** MAKES an EXPR's nodes. */
    private static final class Maker {
        /** Its number among the PRIMITIVES. */
        private static final int NIL = 8;

        private final Program program;
        private final Graph graph;
        private final int[] given = new int[MOST_PARAMETERS];
        private final int[] bound = new int[MOST_OPEN * MOST_BINDINGS];

        /** What waits to be applied: the ATOMS of the EXPR and of each one that is open. */
        private final int[] waiting = new int[(MOST_OPEN + 1) * MOST_ATOMS];
        private int size = 0;

        Maker(Program program, Graph graph) {
            this.program = program;
            this.graph = graph;
        }

        void give(int parameter, int node) {
            if (parameter >= 0 && parameter < given.length) {
                given[parameter] = node;
            }
        }

        int make(int definition) {
            size = 0;
            graph.workFor(definition);
            int end = program.endOf(definition);
            for (int i = program.beginOf(definition); i < end; i++) {
                doDeed(i, program.aboutAt(i));
            }
            return takeWaiting();
        }

        private void doDeed(int i, int about) {
            switch (program.deedAt(i)) {
                case Program.NUMBER:
                    letWait(graph.add(Graph.NUMBER, about, NO));
                    break;
                case Program.PRIMITIVE:
                    letWait(about == NIL ? graph.add(Graph.NIL, 0, NO)
                        : graph.add(Graph.PRIMITIVE, about, NO));
                    break;
                case Program.DEFINITION:
                    letWait(about);
                    break;
                case Program.PARAMETER:
                    letWait(about >= 0 && about < given.length ? given[about] : NONE);
                    break;
                case Program.BOUND:
                    letWait(about >= 0 && about < bound.length ? bound[about] : NONE);
                    break;
                case Program.APPLIES:
                    applyWaiting(about);
                    break;
                case Program.POINTERS:
                    addPointers(program.firstSlotAt(i), about);
                    break;
                case Program.BIND:
                    bind(about, takeWaiting());
                    break;
                default:
                    break;
            }
        }

        private void letWait(int node) {
            if (size >= 0 && size < waiting.length) {
                waiting[size] = node;
                size++;
            }
        }

        private int takeWaiting() {
            if (size < 1 || size > waiting.length) {
                return NONE;
            }
            size--;
            return waiting[size];
        }

        private void applyWaiting(int howMany) {
            int from = size - howMany;
            if (from < 0 || from >= waiting.length) {
                return;
            }
            int made = waiting[from];
            for (int i = from + 1; i < size && i < waiting.length; i++) {
                made = graph.add(Graph.APPLY, made, waiting[i]);
            }
            size = from;
            letWait(made);
        }

        private void addPointers(int firstSlot, int howMany) {
            for (int i = 0; i < howMany; i++) {
                int slot = firstSlot + i;
                if (slot >= 0 && slot < bound.length) {
                    int node = graph.add(Graph.POINTER, 0, NO);
                    graph.become(node, Graph.POINTER, node, NO);
                    bound[slot] = node;
                }
            }
        }

        private void bind(int slot, int node) {
            if (slot >= 0 && slot < bound.length) {
                graph.become(bound[slot], Graph.POINTER, node, NO);
            }
        }
    }

    /** Does the STEPS. */
    private static final class Machine {
        /** What a STEP would do, by the numbers of promise 9. */
        private static final int FOLLOWS = 0, UNWINDS = 1, MAKES = 2, NEEDS_THING = 3;
        private static final int WORKS_OUT = 4, COMES_BACK = 5, RESTS = 6, FAILS = 7;

        private static final int ADD = 0, SUB = 1, MUL = 2, QUO = 3, LESS = 4, SAME = 5, IF = 6;
        private static final int CONS = 7, HEAD = 9, TAIL = 10, EMPTY = 11, SEQ = 12;

        /** By PRIMITIVE: how many things it needs, and how many of them it looks at. */
        private static final int[] NEEDS = {2, 2, 2, 2, 2, 2, 3, 2, 0, 1, 1, 1, 2};
        private static final int[] WANTS = {2, 2, 2, 2, 2, 2, 1, 0, 0, 1, 1, 1, 1};

        private static final int NOTHING_TO_APPLY = 1, ANOTHER_SORT = 2, QUO_BY_ZERO = 3;
        private static final int NOTHING_IN_NIL = 4, NEEDS_ITSELF = 5;

        private final Program program;
        private final Graph graph;
        private final Stacks stacks;
        private final Maker maker;
        private final int[] timesMade = new int[MOST_DEFINITIONS];
        private final int[] nodesMade = new int[MOST_DEFINITIONS];
        private int steps = 0;

        /** What look() found beside its answer. */
        private int error = 0;
        private int needed = NONE;
        private int firstThing = NONE;
        private int secondThing = NONE;

        Machine(Program program, Graph graph, Stacks stacks) {
            this.program = program;
            this.graph = graph;
            this.stacks = stacks;
            this.maker = new Maker(program, graph);
        }

        void begin() {
            graph.clear();
            for (int d = 0; d < MOST_DEFINITIONS; d++) {
                timesMade[d] = 0;
                nodesMade[d] = 0;
                if (d < program.size()) {
                    graph.add(Graph.FUNCTION, d, NO);
                }
            }
            stacks.begin(program.definitionOf(Reader.MAIN));
            steps = 0;
        }

        int stepsDone() {
            return steps;
        }

        int errorFound() {
            return error;
        }

        int timesMade(int d) {
            return d >= 0 && d < MOST_DEFINITIONS ? timesMade[d] : 0;
        }

        int nodesMadeBy(int d) {
            return d >= 0 && d < MOST_DEFINITIONS ? nodesMade[d] : 0;
        }

        boolean wouldMake(int definition) {
            int node = stacks.fromTop(0);
            return graph.kindOf(node) == Graph.FUNCTION && graph.firstOf(node) == definition
                && look() == MAKES;
        }

        /** Does a STEP if one can be done; the state that comes of it. */
        int attempt() {
            int what = look();
            if (what == RESTS) {
                return AT_REST;
            }
            if (what == FAILS) {
                return IN_ERROR;
            }
            if (steps >= MOST_STEPS || !hasRoomFor(what)) {
                return IS_FULL;
            }
            perform(what);
            steps++;
            return GOES_ON;
        }

        int look() {
            error = 0;
            int node = stacks.fromTop(0);
            int about = graph.firstOf(node);
            int below = stacks.height() - 1;
            switch (graph.kindOf(node)) {
                case Graph.POINTER:
                    return FOLLOWS;
                case Graph.APPLY:
                    return UNWINDS;
                case Graph.FUNCTION:
                    return below >= program.parametersOf(about) ? MAKES : valueOnTop();
                case Graph.PRIMITIVE:
                    return below >= needsOf(about) ? lookAtThings(about) : valueOnTop();
                default:
                    return below == 0 ? valueOnTop() : failing(NOTHING_TO_APPLY);
            }
        }

        private int valueOnTop() {
            return stacks.dumped() > 0 ? COMES_BACK : RESTS;
        }

        private int failing(int code) {
            error = code;
            return FAILS;
        }

        /** Things that are not wanted are not looked at, even if they are a ring of POINTERS. */
        private int lookAtThings(int primitive) {
            int wanted = wantsOf(primitive);
            for (int k = 1; k <= wanted; k++) {
                int thing = graph.followed(secondBelow(k));
                if (thing == NONE) {
                    return failing(NEEDS_ITSELF);
                }
                if (!isValue(thing)) {
                    needed = thing;
                    return stacks.hasAsLowest(thing) ? failing(NEEDS_ITSELF) : NEEDS_THING;
                }
                if (!isOfSort(primitive, graph.kindOf(thing))) {
                    return failing(ANOTHER_SORT);
                }
                if (k == 1) {
                    firstThing = thing;
                } else {
                    secondThing = thing;
                }
            }
            return lookAtValues(primitive);
        }

        private int lookAtValues(int primitive) {
            if (primitive == QUO && graph.firstOf(secondThing) == 0) {
                return failing(QUO_BY_ZERO);
            }
            boolean takesApart = primitive == HEAD || primitive == TAIL;
            if (takesApart && isNil(firstThing)) {
                return failing(NOTHING_IN_NIL);
            }
            return WORKS_OUT;
        }

        private static boolean isOfSort(int primitive, int kind) {
            switch (primitive) {
                case SEQ:
                    return true;
                case HEAD:
                case TAIL:
                case EMPTY:
                    return kind == Graph.PAIR || kind == Graph.NIL;
                default:
                    return kind == Graph.NUMBER;
            }
        }

        private boolean isValue(int node) {
            int head = node;
            int things = 0;
            for (; things <= MOST_PARAMETERS && graph.kindOf(head) == Graph.APPLY; things++) {
                head = graph.followed(graph.firstOf(head));
            }
            switch (graph.kindOf(head)) {
                case Graph.FUNCTION:
                    return things < program.parametersOf(graph.firstOf(head));
                case Graph.PRIMITIVE:
                    return things < needsOf(graph.firstOf(head));
                case Graph.NUMBER:
                case Graph.PAIR:
                case Graph.NIL:
                    return things == 0;
                default:
                    return false;
            }
        }

        /** The second node of the APPLY k places below the top. */
        private int secondBelow(int k) {
            return graph.secondOf(stacks.fromTop(k));
        }

        private static int needsOf(int primitive) {
            return primitive >= 0 && primitive < NEEDS.length ? NEEDS[primitive] : 0;
        }

        private static int wantsOf(int primitive) {
            return primitive >= 0 && primitive < WANTS.length ? WANTS[primitive] : 0;
        }

        private boolean hasRoomFor(int what) {
            switch (what) {
                case UNWINDS:
                case NEEDS_THING:
                    return stacks.hasRoom();
                case MAKES:
                    return graph.hasRoom(program.nodesOf(graph.firstOf(stacks.fromTop(0))));
                default:
                    return true;
            }
        }

        private void perform(int what) {
            int node = stacks.fromTop(0);
            int about = graph.firstOf(node);
            switch (what) {
                case FOLLOWS:
                    stacks.pop(1);
                    stacks.push(about);
                    break;
                case UNWINDS:
                    stacks.push(about);
                    break;
                case MAKES:
                    makeFunction(about);
                    break;
                case NEEDS_THING:
                    stacks.putOnDump(needed);
                    break;
                case WORKS_OUT:
                    workOut(about, stacks.fromTop(needsOf(about)));
                    break;
                default:
                    stacks.takeFromDump();
                    break;
            }
        }

        private void makeFunction(int definition) {
            int count = program.parametersOf(definition);
            for (int k = 1; k <= count; k++) {
                maker.give(k - 1, secondBelow(k));
            }
            int lowest = stacks.fromTop(count);
            int made = maker.make(definition);
            graph.become(lowest, Graph.POINTER, made, NO);
            stacks.pop(count + 1);
            stacks.push(made);
            if (definition >= 0 && definition < MOST_DEFINITIONS) {
                timesMade[definition]++;
                nodesMade[definition] += program.nodesOf(definition);
            }
        }

        private void workOut(int primitive, int lowest) {
            int first = graph.firstOf(firstThing);
            switch (primitive) {
                case IF:
                    graph.become(lowest, Graph.POINTER, secondBelow(first != 0 ? 2 : 3), NO);
                    break;
                case CONS:
                    graph.become(lowest, Graph.PAIR, secondBelow(1), secondBelow(2));
                    break;
                case HEAD:
                    graph.become(lowest, Graph.POINTER, first, NO);
                    break;
                case TAIL:
                    graph.become(lowest, Graph.POINTER, graph.secondOf(firstThing), NO);
                    break;
                case SEQ:
                    graph.become(lowest, Graph.POINTER, secondBelow(2), NO);
                    break;
                case EMPTY:
                    graph.become(lowest, Graph.NUMBER, isNil(firstThing) ? 1 : 0, NO);
                    break;
                default:
                    graph.become(lowest, Graph.NUMBER,
                        calculate(primitive, first, graph.firstOf(secondThing)), NO);
                    break;
            }
            stacks.pop(needsOf(primitive) + 1);
            stacks.push(lowest);
        }

        private boolean isNil(int node) {
            return graph.kindOf(node) == Graph.NIL;
        }

        private static int calculate(int primitive, int a, int b) {
            switch (primitive) {
                case ADD: return a + b;
                case SUB: return a - b;
                case MUL: return a * b;
                case QUO: return b == 0 ? 0 : a / b;
                case LESS: return a < b ? 1 : 0;
                case SAME: return a == b ? 1 : 0;
                default: return 0;
            }
        }
    }

    /** Finds which nodes are kept, and by which ways. */
    private static final class Keeper {
        private final Program program;
        private final Graph graph;
        private final Stacks stacks;

        /** The kept nodes, those with shorter ways first, then by what their ways are like. */
        private final int[] found = new int[MOST_NODES];
        private int foundCount = 0;

        /** Of a node: how many are on its way (0: it is not kept), and which is ahead of it. */
        private final int[] lengths = new int[MOST_NODES];
        private final int[] aheads = new int[MOST_NODES];

        Keeper(Program program, Graph graph, Stacks stacks) {
            this.program = program;
            this.graph = graph;
            this.stacks = stacks;
        }

        int countKept() {
            findKept();
            return foundCount;
        }

        boolean keeps(int node) {
            findKept();
            return lengthOf(node) > 0;
        }

        int freeTheRest() {
            findKept();
            int freed = 0;
            for (int node = 0; node < MOST_NODES; node++) {
                if (lengths[node] == 0 && !graph.isFree(node)) {
                    graph.free(node);
                    freed++;
                }
            }
            return freed;
        }

        /** How many nodes are on the way; 0: the node is not kept. */
        int wayTo(int node) {
            findKept();
            return lengthOf(node);
        }

        /** The k-th on the way that the latest wayTo() found. */
        int onWay(int node, int k) {
            int at = node;
            for (int i = lengthOf(node) - 1; i > k && at >= 0 && at < MOST_NODES; i--) {
                at = aheads[at];
            }
            return at;
        }

        int placesThatHave(int node) {
            findKept();
            int places = 0;
            for (int i = 0; i < foundCount && i < MOST_NODES; i++) {
                int kept = found[i];
                if ((graph.hasTwo(kept) || graph.hasOne(kept)) && graph.firstOf(kept) == node) {
                    places++;
                }
                if (graph.hasTwo(kept) && graph.secondOf(kept) == node) {
                    places++;
                }
            }
            for (int place = 0; place < stacks.size(); place++) {
                if (stacks.at(place) == node) {
                    places++;
                }
            }
            return places;
        }

        private int lengthOf(int node) {
            return node >= 0 && node < MOST_NODES ? lengths[node] : 0;
        }

        /**
         * Breadth first, lesser numbers first at each turn: so the first way that comes to a
         * node is the one that promise 17 wants.
         */
        private void findKept() {
            foundCount = 0;
            markBeginnings();
            for (int node = 0; node < MOST_NODES; node++) {
                if (lengths[node] == 1) {
                    addFound(node, NONE);
                }
            }
            for (int i = 0; i < foundCount && i < MOST_NODES; i++) {
                int node = found[i];
                int first = graph.firstOf(node);
                int second = graph.secondOf(node);
                if (graph.hasTwo(node)) {
                    comeTo(first < second ? first : second, node);
                    comeTo(first < second ? second : first, node);
                } else if (graph.hasOne(node)) {
                    comeTo(first, node);
                }
            }
        }

        private void markBeginnings() {
            for (int node = 0; node < MOST_NODES; node++) {
                lengths[node] = node < program.size() ? 1 : 0;
            }
            for (int place = 0; place < stacks.size(); place++) {
                int node = stacks.at(place);
                if (node >= 0 && node < MOST_NODES) {
                    lengths[node] = 1;
                }
            }
        }

        private void comeTo(int node, int from) {
            if (node >= 0 && node < MOST_NODES && lengths[node] == 0) {
                lengths[node] = lengthOf(from) + 1;
                addFound(node, from);
            }
        }

        private void addFound(int node, int from) {
            if (node >= 0 && node < MOST_NODES && foundCount >= 0 && foundCount < MOST_NODES) {
                aheads[node] = from;
                found[foundCount] = node;
                foundCount++;
            }
        }
    }
}
