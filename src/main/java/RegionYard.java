import java.util.NoSuchElementException;

/**
 * A yard of loaded programs: each is proved once, by intervals, and then run without further
 * questions as processes, in turn, each in a region of the store of its own.
 */
public final class RegionYard {
    public static final int NONE = -1;

    private static final int REGISTERS = 8;
    private static final int PROGRAMS_MAX = 24;
    private static final int NEED_MAX = 1024;
    private static final int WORDS_MAX = 200;
    private static final int ALL_WORDS_MAX = 2000;
    private static final int FUNCTIONS_MAX = 8;
    private static final int LINKS_MAX = 8;
    private static final int LINK_DEPTH_MAX = 32;
    private static final int READY_MAX = 40;
    private static final int PROCESSES_MAX = 300;
    private static final int CELLS = 4096;
    private static final int RUN_MAX = 5000;
    private static final int QUANTUM_MAX = 100;
    private static final int POINTER_MAX = 1000000;
    private static final int PLACE_STEP = 1000;
    /** A link goes 32 deep at most, and the eight functions above it add one each. */
    private static final int CALLS_MAX = LINK_DEPTH_MAX + FUNCTIONS_MAX;

    private static final int TOO_SMALL = -2;
    private static final int NO_STRETCH = -3;
    private static final int TOO_MANY = -4;

    private static final int ANY = 0;
    private static final int INT = 1;
    private static final int POINTER = 2;

    private static final int OPEN = 0;
    private static final int ACCEPTED = 1;
    private static final int REFUSED = 2;

    private static final int READY = 0;
    private static final int EXITED = 1;
    private static final int KILLED = 2;

    private static final int EXIT = 0;
    private static final int YIELD = 1;
    private static final int SET = 2;
    private static final int MOVE = 3;
    private static final int ADD = 4;
    private static final int SUB = 5;
    private static final int MUL = 6;
    private static final int DIV = 7;
    private static final int REM = 8;
    private static final int INC = 9;
    private static final int AND = 10;
    private static final int SHIFT = 11;
    private static final int BASE = 12;
    private static final int LOAD = 13;
    private static final int STORE = 14;
    private static final int JUMP = 15;
    private static final int LESS = 16;
    private static final int SAME = 17;
    private static final int CALL = 18;
    private static final int LINKED = 19;
    private static final int RETURN = 20;

    private static final int RIGHT = 0;
    private static final int NO_LABEL = 1;
    private static final int WRONG_KIND = 2;
    private static final int OUTSIDE = 3;
    private static final int UNMET = 4;
    private static final int BY_ZERO = 5;
    private static final int FAR_POINTER = 6;
    private static final int NOT_REACHED = 7;
    private static final int NO_CALLEE = 8;
    private static final int ENTRY_UNMET = 9;
    private static final int OUT_UNMET = 10;
    private static final int NO_CALLER = 11;
    private static final int WRONG_START = 12;

    private static final int HAS_D = 1;
    private static final int HAS_A = 2;
    private static final int HAS_B = 4;
    private static final int HAS_N = 8;
    /** By OP: which parts its words have, as a sum of the four above. */
    private static final int[] PARTS = {
        2, 0, 9, 3, 7, 7, 7, 7, 7, 11, 11, 11, 9, 11, 11, 8, 11, 11, 8, 8, 0
    };

    private final Program[] programs = new Program[PROGRAMS_MAX];
    private int programCount;
    private Program open;
    private int wordCount;
    private final Judge judge = new Judge();
    private final Proc[] procs = new Proc[PROCESSES_MAX];
    private int procCount;
    private final Store store = new Store();
    private final Queue queue = new Queue();
    private int turnLength = 4;
    private int doneInTurn;
    private int ticks;

    public RegionYard() {
    }

    public int begin(int need) {
        if (open != null || programCount >= PROGRAMS_MAX || need < 1 || need > NEED_MAX) {
            return NONE;
        }
        open = new Program(need);
        programs[programCount] = open;
        programCount++;
        return programCount - 1;
    }

    public int feed(int word) {
        if (open == null || wordCount >= ALL_WORDS_MAX || !isWord(word)) {
            return NONE;
        }
        int index = open.addWord(word);
        if (index != NONE) {
            wordCount++;
        }
        return index;
    }

    public boolean label(int index, int function) {
        return open != null && open.setLabel(index, function);
    }

    public boolean type(int index, int register, int kind, int low, int high) {
        if (open == null || !isType(register, kind, low, high)) {
            return false;
        }
        Label label = open.labelAt(index);
        if (label == null) {
            return false;
        }
        label.types.set(register, kind, low, high);
        return true;
    }

    public int function(int entry) {
        return open == null ? NONE : open.addFunction(entry);
    }

    public boolean out(int function, int register, int kind, int low, int high) {
        if (open == null || !isType(register, kind, low, high)) {
            return false;
        }
        Function told = open.functionAt(function);
        if (told == null) {
            return false;
        }
        told.out.set(register, kind, low, high);
        return true;
    }

    public int link(int program, int function) {
        Program other = acceptedAt(program);
        if (open == null || other == null || function < 1 || other.need > open.need) {
            return NONE;
        }
        Function callee = other.functionAt(function);
        Label entry = other.entryLabel(function);
        if (callee == null || entry == null || callee.depth > LINK_DEPTH_MAX) {
            return NONE;
        }
        return open.addLink(program, callee, entry);
    }

    public int verify() {
        if (open == null) {
            return NONE;
        }
        int answer = judge.firstFault(open);
        open.close(answer);
        open = null;
        return answer;
    }

    public int program(int program, int what) throws NoSuchElementException {
        Program told = programAt(program);
        if (told == null) {
            throw new NoSuchElementException("no such program");
        }
        switch (what) {
            case 0:
                return told.state;
            case 1:
                return told.need;
            case 2:
                return told.wordCount;
            case 3:
                return told.functionCount;
            case 4:
                return told.linkCount;
            case 5:
                return told.answer;
            case 6:
                return told.depth();
            default:
                throw new NoSuchElementException("no such number of a program");
        }
    }

    public int spawn(int program, int size) {
        Program own = acceptedAt(program);
        if (own == null) {
            return NONE;
        }
        if (size < own.need) {
            return TOO_SMALL;
        }
        int begin = store.lowestStretch(size);
        if (begin == NONE) {
            return NO_STRETCH;
        }
        if (queue.size >= READY_MAX || procCount >= PROCESSES_MAX) {
            return TOO_MANY;
        }
        store.take(begin, size);
        procs[procCount] = new Proc(program, begin, size);
        queue.add(procCount);
        procCount++;
        return procCount - 1;
    }

    public int tick() {
        int number = queue.at(0);
        Proc first = procAt(number);
        if (first == null) {
            return NONE;
        }
        Program at = programAt(first.program);
        if (at == null) {
            return NONE;
        }
        int op = first.step(at, store);
        ticks++;
        doneInTurn++;
        if (op == EXIT) {
            finish(first, 0, EXITED);
        } else if (op == YIELD || doneInTurn >= turnLength) {
            queue.firstToBack();
            doneInTurn = 0;
        }
        return number;
    }

    public int run(int n) throws IllegalArgumentException {
        if (n < 0 || n > RUN_MAX) {
            throw new IllegalArgumentException("not 0 .. 5000 ticks");
        }
        for (int done = 0; done < n; done++) {
            if (tick() == NONE) {
                return done;
            }
        }
        return n;
    }

    public int quantum(int n) throws IllegalArgumentException {
        if (n < 1 || n > QUANTUM_MAX) {
            throw new IllegalArgumentException("not 1 .. 100 instructions");
        }
        int before = turnLength;
        turnLength = n;
        return before;
    }

    public boolean kill(int process) {
        Proc told = procAt(process);
        if (told == null || told.state != READY) {
            return false;
        }
        finish(told, queue.positionOf(process), KILLED);
        return true;
    }

    public int process(int process, int what) throws NoSuchElementException {
        Proc told = procAt(process);
        if (told == null) {
            throw new NoSuchElementException("no such process");
        }
        switch (what) {
            case 0:
                return told.state;
            case 1:
                return told.own;
            case 2:
                return told.place();
            case 3:
                return told.done;
            case 4:
                return told.openCalls;
            case 5:
                return told.begin;
            case 6:
                return told.size;
            case 7:
                return queue.positionOf(process);
            case 8:
                return told.value;
            default:
                throw new NoSuchElementException("no such number of a process");
        }
    }

    public int register(int process, int register) throws NoSuchElementException {
        Proc told = procAt(process);
        if (told == null || !isRegister(register)) {
            throw new NoSuchElementException("no such process or register");
        }
        return told.registers[register];
    }

    public long trace(int process) throws NoSuchElementException {
        Proc told = procAt(process);
        if (told == null) {
            throw new NoSuchElementException("no such process");
        }
        return told.history;
    }

    public int cell(int process, int offset) throws NoSuchElementException {
        Proc told = procAt(process);
        if (told == null || !told.owns(offset)) {
            throw new NoSuchElementException("no such process or offset");
        }
        return store.read(told.begin + offset);
    }

    public int peek(int at) throws NoSuchElementException {
        if (at < 0 || at >= CELLS) {
            throw new NoSuchElementException("no such cell");
        }
        return store.read(at);
    }

    public int count(int what) throws NoSuchElementException {
        switch (what) {
            case 0:
                return programCount;
            case 1:
                return wordCount;
            case 2:
                return procCount;
            case 3:
                return queue.size;
            case 4:
                return store.freeCells();
            case 5:
                return store.freeStretches();
            case 6:
                return store.greatestStretch();
            case 7:
                return ticks;
            case 8:
                return queue.size == 0 ? NONE : doneInTurn;
            default:
                throw new NoSuchElementException("no such count");
        }
    }

    private Program programAt(int number) {
        return number >= 0 && number < programCount ? programs[number] : null;
    }

    private Program acceptedAt(int number) {
        Program found = programAt(number);
        return found != null && found.state == ACCEPTED ? found : null;
    }

    private Proc procAt(int number) {
        return number >= 0 && number < procCount ? procs[number] : null;
    }

    private void finish(Proc proc, int position, int state) {
        queue.removeAt(position);
        if (position == 0) {
            doneInTurn = 0;
        }
        store.release(proc.begin);
        proc.begin = NONE;
        proc.state = state;
    }

    private static boolean isRegister(int register) {
        return register >= 0 && register < REGISTERS;
    }

    private static boolean isType(int register, int kind, int low, int high) {
        return isRegister(register) && kind >= ANY && kind <= POINTER && (kind == ANY || low <= high);
    }

    private static boolean isWord(int word) {
        int op = opOf(word);
        if (op >= PARTS.length) {
            return false;
        }
        int parts = PARTS[op];
        return isPart(word >>> 20 & 15, (parts & HAS_D) != 0)
            && isPart(word >>> 16 & 15, (parts & HAS_A) != 0)
            && isTail(op, parts, nOf(word));
    }

    private static boolean isPart(int bits, boolean has) {
        return has ? bits < REGISTERS : bits == 0;
    }

    private static boolean isTail(int op, int parts, int n) {
        if ((parts & HAS_N) != 0) {
            return op != SHIFT || n <= 31;
        }
        return (n & 0xFFF) == 0 && isPart(n >>> 12, (parts & HAS_B) != 0);
    }

    private static int opOf(int word) {
        return word >>> 24;
    }

    // feed() takes no register above 7, so the three masks only make that plain to see.

    private static int dOf(int word) {
        return word >>> 20 & 7;
    }

    private static int aOf(int word) {
        return word >>> 16 & 7;
    }

    private static int bOf(int word) {
        return word >>> 12 & 7;
    }

    private static int nOf(int word) {
        return word & 0xFFFF;
    }

    private static int sOf(int word) {
        return (short) word;
    }

    /** The types of all registers. Whoever calls with a register has it from 0 to 7. */
    private static final class TypeRow {
        private final int[] kinds = new int[REGISTERS];
        private final int[] lows = new int[REGISTERS];
        private final int[] highs = new int[REGISTERS];

        int kindOf(int register) {
            return kinds[register];
        }

        // Bounds are handed out as longs, so that sums and products of them stay exact.

        long lowOf(int register) {
            return lows[register];
        }

        long highOf(int register) {
            return highs[register];
        }

        boolean isInt(int register) {
            return kinds[register] == INT;
        }

        void set(int register, int kind, int low, int high) {
            kinds[register] = kind;
            lows[register] = low;
            highs[register] = high;
        }

        /** An INT by exact bounds: it may have wrapped, if one of them is no int. */
        void setInt(int register, long low, long high) {
            boolean exact = low >= Integer.MIN_VALUE && high <= Integer.MAX_VALUE;
            kinds[register] = INT;
            lows[register] = exact ? (int) low : Integer.MIN_VALUE;
            highs[register] = exact ? (int) high : Integer.MAX_VALUE;
        }

        void move(int to, int from) {
            set(to, kinds[from], lows[from], highs[from]);
        }

        void clear() {
            for (int i = 0; i < REGISTERS; i++) {
                set(i, ANY, 0, 0);
            }
        }

        void copyFrom(TypeRow other) {
            for (int i = 0; i < REGISTERS; i++) {
                set(i, other.kinds[i], other.lows[i], other.highs[i]);
            }
        }

        boolean meets(TypeRow other) {
            for (int i = 0; i < REGISTERS; i++) {
                boolean within = other.kinds[i] == kinds[i]
                    && other.lows[i] <= lows[i] && highs[i] <= other.highs[i];
                if (other.kinds[i] != ANY && !within) {
                    return false;
                }
            }
            return true;
        }

        boolean admitsZeros() {
            for (int i = 0; i < REGISTERS; i++) {
                boolean within = kinds[i] == INT && lows[i] <= 0 && highs[i] >= 0;
                if (kinds[i] != ANY && !within) {
                    return false;
                }
            }
            return true;
        }
    }

    private static final class Label {
        private final TypeRow types = new TypeRow();
        private int function;
    }

    private static final class Function {
        private final int entry;
        private final TypeRow out = new TypeRow();
        private int depth;

        Function(int entry) {
            this.entry = entry;
        }
    }

    /** A function of a program that is accepted, so nothing of it changes any more. */
    private static final class Link {
        private final int program;
        private final Function callee;
        private final Label entry;

        Link(int program, Function callee, Label entry) {
            this.program = program;
            this.callee = callee;
            this.entry = entry;
        }
    }

    private static final class Program {
        private final int need;
        private final int[] words = new int[WORDS_MAX];
        private final Label[] labels = new Label[WORDS_MAX];
        private final Function[] functions = new Function[FUNCTIONS_MAX];
        private final Link[] links = new Link[LINKS_MAX];
        private int wordCount;
        private int functionCount;
        private int linkCount;
        private int state = OPEN;
        private int answer = NONE;

        Program(int need) {
            this.need = need;
            functions[0] = new Function(0);
            functionCount = 1;
        }

        boolean hasWord(int index) {
            return index >= 0 && index < wordCount;
        }

        /** EXIT where there is no word: no process of an accepted program ever asks there. */
        int wordAt(int index) {
            return index >= 0 && index < wordCount ? words[index] : EXIT;
        }

        Label labelAt(int index) {
            return index >= 0 && index < wordCount ? labels[index] : null;
        }

        Function functionAt(int number) {
            return number >= 0 && number < functionCount ? functions[number] : null;
        }

        Link linkAt(int number) {
            return number >= 0 && number < linkCount ? links[number] : null;
        }

        /** The label at a function's entry; null, if that is none or one of another function. */
        Label entryLabel(int number) {
            Function function = functionAt(number);
            Label label = function == null ? null : labelAt(function.entry);
            return label != null && label.function == number ? label : null;
        }

        int addWord(int word) {
            if (wordCount >= WORDS_MAX) {
                return NONE;
            }
            words[wordCount] = word;
            wordCount++;
            return wordCount - 1;
        }

        boolean setLabel(int index, int number) {
            if (!hasWord(index) || functionAt(number) == null) {
                return false;
            }
            Label label = labels[index];
            if (label == null) {
                label = new Label();
                labels[index] = label;
            }
            label.types.clear();
            label.function = number;
            return true;
        }

        int addFunction(int entry) {
            if (functionCount >= FUNCTIONS_MAX || !hasWord(entry)) {
                return NONE;
            }
            functions[functionCount] = new Function(entry);
            functionCount++;
            return functionCount - 1;
        }

        int addLink(int program, Function callee, Label entry) {
            if (linkCount >= LINKS_MAX) {
                return NONE;
            }
            links[linkCount] = new Link(program, callee, entry);
            linkCount++;
            return linkCount - 1;
        }

        void close(int verdict) {
            answer = verdict;
            state = verdict == RIGHT ? ACCEPTED : REFUSED;
            if (state == ACCEPTED) {
                measureDepths();
            }
        }

        int depth() {
            Function first = functionAt(0);
            return first == null ? 0 : first.depth;
        }

        /** From the last function on, as an accepted one calls none but those above itself. */
        private void measureDepths() {
            for (int number = functionCount - 1; number >= 0; number--) {
                Function function = functionAt(number);
                if (function != null) {
                    function.depth = depthOfWords(number);
                }
            }
        }

        private int depthOfWords(int number) {
            int depth = 0;
            int standsIn = 0;
            for (int index = 0; index < wordCount; index++) {
                Label label = labelAt(index);
                if (label != null) {
                    standsIn = label.function;
                }
                Function callee = standsIn == number ? calleeOf(words[index]) : null;
                if (callee != null) {
                    depth = Math.max(depth, callee.depth + 1);
                }
            }
            return depth;
        }

        private Function calleeOf(int word) {
            if (opOf(word) == CALL) {
                return functionAt(nOf(word));
            }
            Link link = opOf(word) == LINKED ? linkAt(nOf(word)) : null;
            return link == null ? null : link.callee;
        }
    }

    /** Goes once over a program's words with the types that the registers have at each. */
    private static final class Judge {
        private final TypeRow now = new TypeRow();
        private final TypeRow way = new TypeRow();
        private boolean reached;
        private int function;
        private int d;
        private int a;
        private int b;
        private int n;
        private int s;

        int firstFault(Program program) {
            if (program.wordCount == 0) {
                return NO_LABEL;
            }
            reached = false;
            function = 0;
            for (int index = 0; index < program.wordCount; index++) {
                int reason = comingFault(program.labelAt(index), index);
                if (reason == RIGHT) {
                    reason = wordFault(program, index);
                }
                if (reason != RIGHT) {
                    return 16 * index + reason;
                }
            }
            return RIGHT;
        }

        private int comingFault(Label label, int index) {
            if (index == 0 && !isStart(label)) {
                return WRONG_START;
            }
            if (label == null) {
                return reached ? RIGHT : NOT_REACHED;
            }
            function = label.function;
            now.copyFrom(label.types);
            return RIGHT;
        }

        private static boolean isStart(Label label) {
            return label != null && label.function == 0 && label.types.admitsZeros();
        }

        private int wordFault(Program program, int index) {
            reached = false;
            int op = split(program.wordAt(index));
            switch (op) {
                case EXIT:
                    return now.isInt(a) ? RIGHT : WRONG_KIND;
                case JUMP:
                    return goingFault(program, n, now);
                case LESS:
                    return now.isInt(d) && now.isInt(a) ? lessFault(program, index) : WRONG_KIND;
                case SAME:
                    return now.isInt(d) && now.isInt(a) ? sameFault(program, index) : WRONG_KIND;
                case CALL:
                    return callFault(program, index);
                case LINKED:
                    return linkedFault(program, index);
                case RETURN:
                    return returnFault(program);
                default:
                    int reason = workFault(op, program.need);
                    return reason == RIGHT ? nextFault(program, index) : reason;
            }
        }

        private int split(int word) {
            d = dOf(word);
            a = aOf(word);
            b = bOf(word);
            n = nOf(word);
            s = sOf(word);
            return opOf(word);
        }

        private int workFault(int op, int need) {
            switch (op) {
                case SET:
                    now.set(d, INT, s, s);
                    return RIGHT;
                case MOVE:
                    now.move(d, a);
                    return RIGHT;
                case ADD:
                    return addFault();
                case SUB:
                    return subFault();
                case MUL:
                    return productFault();
                case DIV:
                    return quotientFault();
                case REM:
                    return remainderFault();
                case INC:
                    return sumFault(INT, now.lowOf(a) + s, now.highOf(a) + s);
                case AND:
                    return intFault(0, n);
                case SHIFT:
                    return intFault(now.lowOf(a) >> n, now.highOf(a) >> n);
                case BASE:
                    now.set(d, POINTER, n, n);
                    return RIGHT;
                case LOAD:
                    return loadFault(need);
                case STORE:
                    return now.isInt(d) ? cellFault(need) : WRONG_KIND;
                default:
                    return RIGHT;
            }
        }

        private int intFault(long low, long high) {
            if (!now.isInt(a)) {
                return WRONG_KIND;
            }
            now.setInt(d, low, high);
            return RIGHT;
        }

        private int addFault() {
            return sumFault(now.kindOf(b), now.lowOf(a) + now.lowOf(b), now.highOf(a) + now.highOf(b));
        }

        private int subFault() {
            if (!now.isInt(b)) {
                return WRONG_KIND;
            }
            return sumFault(INT, now.lowOf(a) - now.highOf(b), now.highOf(a) - now.lowOf(b));
        }

        /** Of ra and a part of that kind: a POINTER, if one of both is, and never both. */
        private int sumFault(int kind, long low, long high) {
            int kindA = now.kindOf(a);
            if (kindA == ANY || kind == ANY || kindA == POINTER && kind == POINTER) {
                return WRONG_KIND;
            }
            if (kindA == INT && kind == INT) {
                now.setInt(d, low, high);
                return RIGHT;
            }
            if (low < -POINTER_MAX || high > POINTER_MAX) {
                return FAR_POINTER;
            }
            now.set(d, POINTER, (int) low, (int) high);
            return RIGHT;
        }

        private int productFault() {
            if (!now.isInt(a) || !now.isInt(b)) {
                return WRONG_KIND;
            }
            setOfFour(now.lowOf(a) * now.lowOf(b), now.lowOf(a) * now.highOf(b),
                now.highOf(a) * now.lowOf(b), now.highOf(a) * now.highOf(b));
            return RIGHT;
        }

        private int divisorFault() {
            if (!now.isInt(a) || !now.isInt(b)) {
                return WRONG_KIND;
            }
            return now.lowOf(b) <= 0 && now.highOf(b) >= 0 ? BY_ZERO : RIGHT;
        }

        private int quotientFault() {
            int reason = divisorFault();
            long lowB = now.lowOf(b);
            long highB = now.highOf(b);
            if (reason != RIGHT || lowB == 0 || highB == 0) {
                return reason;
            }
            setOfFour(now.lowOf(a) / lowB, now.lowOf(a) / highB,
                now.highOf(a) / lowB, now.highOf(a) / highB);
            return RIGHT;
        }

        private int remainderFault() {
            int reason = divisorFault();
            if (reason == RIGHT) {
                long most = Math.max(Math.abs(now.lowOf(b)), Math.abs(now.highOf(b))) - 1;
                now.setInt(d, now.lowOf(a) < 0 ? -most : 0, now.highOf(a) > 0 ? most : 0);
            }
            return reason;
        }

        private void setOfFour(long first, long second, long third, long fourth) {
            now.setInt(d, Math.min(Math.min(first, second), Math.min(third, fourth)),
                Math.max(Math.max(first, second), Math.max(third, fourth)));
        }

        private int loadFault(int need) {
            int reason = cellFault(need);
            if (reason == RIGHT) {
                now.set(d, INT, Integer.MIN_VALUE, Integer.MAX_VALUE);
            }
            return reason;
        }

        private int cellFault(int need) {
            if (now.kindOf(a) != POINTER) {
                return WRONG_KIND;
            }
            return now.lowOf(a) + s < 0 || now.highOf(a) + s >= need ? OUTSIDE : RIGHT;
        }

        private int goingFault(Program program, int to, TypeRow types) {
            Label label = program.labelAt(to);
            if (label == null || label.function != function) {
                return NO_LABEL;
            }
            return types.meets(label.types) ? RIGHT : UNMET;
        }

        private int nextFault(Program program, int index) {
            int next = index + 1;
            reached = true;
            if (program.hasWord(next) && program.labelAt(next) == null) {
                return RIGHT;
            }
            return goingFault(program, next, now);
        }

        private int lessFault(Program program, int index) {
            if (d == a) {
                return nextFault(program, index);
            }
            long lowD = now.lowOf(d);
            long highD = now.highOf(d);
            long lowA = now.lowOf(a);
            long highA = now.highOf(a);
            if (lowD < highA) {
                way.copyFrom(now);
                way.setInt(d, lowD, Math.min(highD, highA - 1));
                way.setInt(a, Math.max(lowA, lowD + 1), highA);
                int reason = goingFault(program, n, way);
                if (reason != RIGHT) {
                    return reason;
                }
            }
            if (highD < lowA) {
                return RIGHT;
            }
            now.setInt(d, Math.max(lowD, lowA), highD);
            now.setInt(a, lowA, Math.min(highA, highD));
            return nextFault(program, index);
        }

        private int sameFault(Program program, int index) {
            long low = Math.max(now.lowOf(d), now.lowOf(a));
            long high = Math.min(now.highOf(d), now.highOf(a));
            if (low <= high) {
                way.copyFrom(now);
                way.setInt(d, low, high);
                way.setInt(a, low, high);
                int reason = goingFault(program, n, way);
                if (reason != RIGHT) {
                    return reason;
                }
            }
            return d == a ? RIGHT : nextFault(program, index);
        }

        private int callFault(Program program, int index) {
            Function callee = program.functionAt(n);
            if (callee == null || n <= function) {
                return NO_CALLEE;
            }
            Label entry = program.entryLabel(n);
            return entry == null ? NO_LABEL : calleeFault(program, index, entry, callee);
        }

        private int linkedFault(Program program, int index) {
            Link link = program.linkAt(n);
            return link == null ? NO_CALLEE : calleeFault(program, index, link.entry, link.callee);
        }

        private int calleeFault(Program program, int index, Label entry, Function callee) {
            if (!now.meets(entry.types)) {
                return ENTRY_UNMET;
            }
            return goingFault(program, index + 1, callee.out);
        }

        private int returnFault(Program program) {
            Function own = program.functionAt(function);
            if (function == 0 || own == null) {
                return NO_CALLER;
            }
            return now.meets(own.out) ? RIGHT : OUT_UNMET;
        }
    }

    /**
     * A process. verify() has proved that no step leaves the region, the words or the open
     * calls, or divides by 0; the tests of that here only keep Java from ever throwing.
     */
    private static final class Proc {
        private final int own;
        private final int size;
        private final int[] registers = new int[REGISTERS];
        private final int[] calls = new int[CALLS_MAX];
        private int openCalls;
        private int program;
        private int index;
        private int begin;
        private int state = READY;
        private int done;
        private int value;
        private long history;

        Proc(int program, int begin, int size) {
            this.own = program;
            this.program = program;
            this.begin = begin;
            this.size = size;
        }

        int place() {
            return PLACE_STEP * program + index;
        }

        boolean owns(int offset) {
            return state == READY && offset >= 0 && offset < size;
        }

        /** Does the instruction at the place, which is in this program, and answers its OP. */
        int step(Program at, Store store) {
            int word = at.wordAt(index);
            int op = opOf(word);
            if (op == EXIT) {
                value = registers[aOf(word)];
            } else if (op < JUMP) {
                work(op, word, store);
                index++;
            } else {
                go(at, op, word);
            }
            done++;
            remember();
            return op;
        }

        private void remember() {
            history = 31 * history + place();
            for (int i = 0; i < REGISTERS; i++) {
                history = 31 * history + registers[i];
            }
        }

        private void work(int op, int word, Store store) {
            int d = dOf(word);
            int left = registers[aOf(word)];
            switch (op) {
                case YIELD:
                    return;
                case SET:
                    registers[d] = sOf(word);
                    return;
                case MOVE:
                    registers[d] = left;
                    return;
                case INC:
                    registers[d] = left + sOf(word);
                    return;
                case AND:
                    registers[d] = left & nOf(word);
                    return;
                case SHIFT:
                    registers[d] = left >> nOf(word);
                    return;
                case BASE:
                    registers[d] = nOf(word);
                    return;
                case LOAD:
                    registers[d] = load(left + sOf(word), store);
                    return;
                case STORE:
                    save(left + sOf(word), registers[d], store);
                    return;
                default:
                    registers[d] = computed(op, left, registers[bOf(word)]);
            }
        }

        private static int computed(int op, int left, int right) {
            switch (op) {
                case ADD:
                    return left + right;
                case SUB:
                    return left - right;
                case MUL:
                    return left * right;
                case DIV:
                    return right == 0 ? 0 : left / right;
                default:
                    return right == 0 ? 0 : left % right;
            }
        }

        private int load(int offset, Store store) {
            return owns(offset) ? store.read(begin + offset) : 0;
        }

        private void save(int offset, int number, Store store) {
            if (owns(offset)) {
                store.write(begin + offset, number);
            }
        }

        private void go(Program at, int op, int word) {
            int n = nOf(word);
            int left = registers[dOf(word)];
            int right = registers[aOf(word)];
            switch (op) {
                case JUMP:
                    index = n;
                    return;
                case LESS:
                    index = left < right ? n : index + 1;
                    return;
                case SAME:
                    index = left == right ? n : index + 1;
                    return;
                case CALL:
                    Function callee = at.functionAt(n);
                    if (callee != null) {
                        enter(program, callee);
                    }
                    return;
                case LINKED:
                    Link link = at.linkAt(n);
                    if (link != null) {
                        enter(link.program, link.callee);
                    }
                    return;
                default:
                    leave();
            }
        }

        private void enter(int other, Function callee) {
            if (openCalls >= calls.length) {
                return;
            }
            calls[openCalls] = place() + 1;
            openCalls++;
            program = other;
            index = callee.entry;
        }

        private void leave() {
            if (openCalls <= 0) {
                return;
            }
            openCalls--;
            program = calls[openCalls] / PLACE_STEP;
            index = calls[openCalls] % PLACE_STEP;
        }
    }

    /** The cells, and the regions among them in the order of their beginnings. */
    private static final class Store {
        private final int[] cells = new int[CELLS];
        private final int[] begins = new int[READY_MAX];
        private final int[] sizes = new int[READY_MAX];
        private int regions;

        int read(int at) {
            return at >= 0 && at < CELLS ? cells[at] : 0;
        }

        void write(int at, int number) {
            if (at >= 0 && at < CELLS) {
                cells[at] = number;
            }
        }

        /** Where the free stretch ahead of a region (or of the store's end) begins. */
        private int gapBegin(int region) {
            return region == 0 ? 0 : begins[region - 1] + sizes[region - 1];
        }

        private int gapSize(int region) {
            return (region < regions ? begins[region] : CELLS) - gapBegin(region);
        }

        int lowestStretch(int size) {
            for (int i = 0; i <= regions; i++) {
                if (gapSize(i) >= size) {
                    return gapBegin(i);
                }
            }
            return NONE;
        }

        int freeCells() {
            int free = 0;
            for (int i = 0; i <= regions; i++) {
                free += gapSize(i);
            }
            return free;
        }

        int freeStretches() {
            int stretches = 0;
            for (int i = 0; i <= regions; i++) {
                stretches += gapSize(i) > 0 ? 1 : 0;
            }
            return stretches;
        }

        int greatestStretch() {
            int greatest = 0;
            for (int i = 0; i <= regions; i++) {
                greatest = Math.max(greatest, gapSize(i));
            }
            return greatest;
        }

        void take(int begin, int size) {
            if (regions >= READY_MAX) {
                return;
            }
            int at = regions;
            for (int i = regions; i > 0 && begins[i - 1] > begin; i--) {
                begins[i] = begins[i - 1];
                sizes[i] = sizes[i - 1];
                at = i - 1;
            }
            begins[at] = begin;
            sizes[at] = size;
            regions++;
            for (int i = 0; i < size; i++) {
                write(begin + i, 0);
            }
        }

        void release(int begin) {
            int kept = 0;
            for (int i = 0; i < regions; i++) {
                if (begins[i] != begin) {
                    begins[kept] = begins[i];
                    sizes[kept] = sizes[i];
                    kept++;
                }
            }
            regions = kept;
        }
    }

    /** Numbers of the processes that are READY, in a ring, as the first one often goes back. */
    private static final class Queue {
        private final int[] ring = new int[READY_MAX];
        private int head;
        private int size;

        private int slot(int position) {
            return (head + position) % READY_MAX;
        }

        int at(int position) {
            return position >= 0 && position < size ? ring[slot(position)] : NONE;
        }

        int positionOf(int number) {
            for (int i = 0; i < size; i++) {
                if (at(i) == number) {
                    return i;
                }
            }
            return NONE;
        }

        void add(int number) {
            if (size < READY_MAX) {
                ring[slot(size)] = number;
                size++;
            }
        }

        void firstToBack() {
            if (size > 0) {
                int number = at(0);
                head = slot(1);
                ring[slot(size - 1)] = number;
            }
        }

        void removeAt(int position) {
            if (position < 0 || position >= size) {
                return;
            }
            for (int i = position; i < size - 1; i++) {
                ring[slot(i)] = at(i + 1);
            }
            size--;
        }
    }
}
