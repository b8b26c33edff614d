import java.util.Arrays;

/**
 * Methods of small instructions with counted loops: they are checked by heights of a stack, their
 * calls by cycles, and it is told how many words and cycles a run of one can need at most; and
 * methods are run, with both counted.
 */
public final class BoundCode {
    public static final int NONE = -1;

    private static final int PUSH = 0;
    private static final int POP = 1;
    private static final int DUP = 2;
    private static final int SWAP = 3;
    private static final int ADD = 4;
    private static final int SUB = 5;
    private static final int MUL = 6;
    private static final int LESS = 7;
    private static final int DIV = 8;
    private static final int LOAD = 9;
    private static final int STORE = 10;
    private static final int OVER = 11;
    private static final int JUMP = 12;
    private static final int IFNOT = 13;
    private static final int LOOP = 14;
    private static final int END = 15;
    private static final int CALL = 16;
    private static final int RETURN = 17;
    private static final int OPERATIONS = 18;

    private static final int MOST_METHODS = 32;
    private static final int MOST_ARGUMENTS = 8;
    private static final int MOST_LOCALS = 16;
    private static final int MOST_INSTRUCTIONS = 120;
    private static final int MOST_CYCLES = 1000000;
    private static final int MOST_ROUNDS = 1000000000;
    private static final int MOST_LOOPS = 8;
    private static final int MOST_HEIGHT = 100;
    private static final int MOST_FRAMES = 100;
    private static final int MOST_STEPS = 100000;
    private static final int WORDS_OF_A_CALL = 2;

    private static final int BAD_FORM = 1;
    private static final int BAD_BRACKET = 2;
    private static final int BAD_JUMP = 3;
    private static final int BAD_CALL = 4;
    private static final int TOO_FEW_WORDS = 5;
    private static final int TOO_HIGH = 6;
    private static final int OTHER_HEIGHT = 7;
    private static final int WORDS_LEFT = 8;
    private static final int NO_RETURN = 9;

    private static final int BOUNDED = 0;
    private static final int FAULTY = 1;
    private static final int CIRCULAR = 2;
    private static final int BOUND_TOO_GREAT = 3;

    private static final int GOES_ON = 0;
    private static final int RETURNED = 1;
    private static final int OUT_OF_STEPS = 2;
    private static final int TOO_DEEP = 3;
    private static final int MET_A_FAULT = 4;

    private final Program program;
    private final Checker checker;
    private final Analyser analyser;
    private final Machine machine;
    private final long[] given;
    private int amountGiven;
    private int faultPlace;

    public BoundCode() {
        program = new Program();
        checker = new Checker(program);
        analyser = new Analyser(program);
        machine = new Machine(program);
        given = new long[MOST_ARGUMENTS];
        amountGiven = 0;
        faultPlace = NONE;
    }

    public int method(int arguments, int results, int locals) throws IllegalArgumentException {
        if (arguments < 0 || arguments > MOST_ARGUMENTS) {
            throw new IllegalArgumentException("ARGUMENTS are 0 .. 8");
        }
        if (results < 0 || results > 1) {
            throw new IllegalArgumentException("RESULTS are 0 or 1");
        }
        if (locals < arguments || locals > MOST_LOCALS) {
            throw new IllegalArgumentException("LOCALS are from the ARGUMENTS up to 16");
        }
        // Asked first, so that no METHOD is made only to be thrown away.
        if (program.isFull()) {
            return NONE;
        }
        return program.include(new Method(arguments, results, locals));
    }

    public int add(int method, int operation, long arg) throws IndexOutOfBoundsException {
        return known(method).append(operation, arg);
    }

    public int change(int method, int i, int operation, long arg)
            throws IndexOutOfBoundsException {
        return knownWith(method, i).replace(i, operation, arg);
    }

    public int cost(int operation, int cycles)
            throws IndexOutOfBoundsException, IllegalArgumentException {
        if (!isOperation(operation)) {
            throw new IndexOutOfBoundsException("OPERATIONS are 0 .. 17");
        }
        if (cycles < 0 || cycles > MOST_CYCLES) {
            throw new IllegalArgumentException("a COST is 0 .. 1000000");
        }
        return program.price(operation, cycles);
    }

    public int check(int method) throws IndexOutOfBoundsException {
        Method checked = known(method);
        checker.refresh();
        faultPlace = checked.faultPlace;
        return checked.fault;
    }

    public int place() {
        return faultPlace;
    }

    public int height(int method, int i) throws IndexOutOfBoundsException {
        Method asked = knownWith(method, i);
        checker.refresh();
        return asked.isSound() ? asked.heightAt(i) : NONE;
    }

    public int analyse(int method) throws IndexOutOfBoundsException {
        known(method);
        checker.refresh();
        return analyser.analyseFrom(method);
    }

    public int told(int method, int what) throws IndexOutOfBoundsException {
        known(method);
        if (what < 0 || what > 2) {
            throw new IndexOutOfBoundsException("what is 0 .. 2");
        }
        return analyser.answer(method, what);
    }

    public long bound(int method, int what) throws IndexOutOfBoundsException {
        known(method);
        if (what < 0 || what > 1) {
            throw new IndexOutOfBoundsException("what is 0 or 1");
        }
        return analyser.boundOf(method, what);
    }

    public int argument(long v) throws IllegalStateException {
        if (amountGiven >= given.length) {
            throw new IllegalStateException("there are eight words");
        }
        given[amountGiven] = v;
        amountGiven++;
        return amountGiven;
    }

    public int run(int method, int most)
            throws IndexOutOfBoundsException, IllegalArgumentException {
        Method first = known(method);
        if (amountGiven != first.arguments) {
            throw new IllegalArgumentException("there are not as many words as ARGUMENTS");
        }
        if (most < 0 || most > MOST_STEPS) {
            throw new IllegalArgumentException("most is 0 .. 100000");
        }
        amountGiven = 0;
        checker.refresh();
        return machine.perform(first, given, most);
    }

    public long ran(int what) throws IndexOutOfBoundsException {
        if (what < 0 || what > 4) {
            throw new IndexOutOfBoundsException("what is 0 .. 4");
        }
        return machine.answer(what);
    }

    public int about(int method, int what) throws IndexOutOfBoundsException {
        Method asked = known(method);
        if (what < 0 || what > 3) {
            throw new IndexOutOfBoundsException("what is 0 .. 3");
        }
        return asked.answer(what);
    }

    private Method known(int method) {
        Method found = program.find(method);
        if (found == null) {
            throw new IndexOutOfBoundsException("there is no such METHOD");
        }
        return found;
    }

    private Method knownWith(int method, int i) {
        Method found = known(method);
        if (!found.has(i)) {
            throw new IndexOutOfBoundsException("there is no such INSTRUCTION");
        }
        return found;
    }

    private static boolean isOperation(int operation) {
        return operation >= 0 && operation < OPERATIONS;
    }

    /** A METHOD, with what the last look of the Checker at it found. */
    private static final class Method {
        private final int arguments;
        private final int results;
        private final int locals;
        private final int[] operations;
        private final long[] args;
        /** Of a LOOP its END, of an END its LOOP; else NONE. */
        private final int[] mates;
        /** The HEIGHT before each INSTRUCTION that is MET; else NONE. */
        private final int[] heights;
        private int size;
        private int fault;
        private int faultPlace;
        /** How many METHODS there were when it was checked; 0 when it was changed since. */
        private int checkedAmong;

        Method(int arguments, int results, int locals) {
            this.arguments = arguments;
            this.results = results;
            this.locals = locals;
            operations = new int[MOST_INSTRUCTIONS];
            args = new long[MOST_INSTRUCTIONS];
            mates = new int[MOST_INSTRUCTIONS];
            heights = new int[MOST_INSTRUCTIONS];
            size = 0;
            fault = 0;
            faultPlace = NONE;
            checkedAmong = 0;
        }

        boolean has(long i) {
            return i >= 0 && i < size;
        }

        int heightAt(int i) {
            return has(i) ? heights[i] : NONE;
        }

        boolean isMet(int i) {
            return heightAt(i) != NONE;
        }

        boolean isSound() {
            return fault == 0;
        }

        int append(int operation, long arg) {
            if (size >= operations.length) {
                return NONE;
            }
            int i = size;
            size++;
            replace(i, operation, arg);
            return i;
        }

        int replace(int i, int operation, long arg) {
            if (!has(i)) {
                return NONE;
            }
            int before = operations[i];
            operations[i] = operation;
            args[i] = arg;
            checkedAmong = 0;
            return before;
        }

        void fail(int kind, int i) {
            fault = kind;
            faultPlace = i;
        }

        int answer(int what) {
            switch (what) {
                case 0:
                    return arguments;
                case 1:
                    return results;
                case 2:
                    return locals;
                default:
                    return size;
            }
        }
    }

    /** All METHODS, and the COSTS. */
    private static final class Program {
        private final Method[] methods;
        private final int[] costs;
        private int count;

        Program() {
            methods = new Method[MOST_METHODS];
            costs = new int[OPERATIONS];
            Arrays.fill(costs, 1);
            count = 0;
        }

        boolean isFull() {
            return count >= methods.length;
        }

        int include(Method made) {
            if (isFull()) {
                return NONE;
            }
            methods[count] = made;
            count++;
            return count - 1;
        }

        /** The number is a long, because the ARG of a CALL may be any. */
        Method find(long number) {
            return number >= 0 && number < count ? methods[(int) number] : null;
        }

        int costOf(int operation) {
            return isOperation(operation) ? costs[operation] : 0;
        }

        int price(int operation, int cycles) {
            int before = costOf(operation);
            if (isOperation(operation)) {
                costs[operation] = cycles;
            }
            return before;
        }
    }

    /** Finds the FAULT of a METHOD, or else its HEIGHTS. */
    private static final class Checker {
        /** OVER, CALL and RETURN are left out: what they take stands in their ARG or METHOD. */
        private static final int[] TAKES =
                {0, 1, 1, 2, 2, 2, 2, 2, 2, 0, 1, 0, 0, 1, 0, 0, 0, 0};
        private static final int[] GIVES =
                {1, 0, 2, 2, 1, 1, 1, 1, 1, 1, 0, 0, 0, 0, 0, 0, 0, 0};

        private final Program program;
        /** The LOOP that each INSTRUCTION is in, the innermost; else NONE. */
        private final int[] inside;
        /** How many LOOPS each INSTRUCTION is in. */
        private final int[] depths;
        /** While they are paired, the LOOPS whose END has not come yet. */
        private final int[] open;

        Checker(Program program) {
            this.program = program;
            inside = new int[MOST_INSTRUCTIONS];
            depths = new int[MOST_INSTRUCTIONS];
            open = new int[MOST_INSTRUCTIONS];
        }

        /**
         * Looks again only at METHODS that were changed since, or that may CALL one that was not
         * there then; nothing else alters what was found.
         */
        void refresh() {
            for (int number = 0; number < program.count; number++) {
                Method m = program.find(number);
                if (m != null && m.checkedAmong != program.count) {
                    inspect(m);
                    m.checkedAmong = program.count;
                }
            }
        }

        private void inspect(Method m) {
            m.fail(0, NONE);
            pairLoops(m);
            findFaultOfForm(m);
            if (m.isSound()) {
                findHeights(m);
            }
        }

        private void pairLoops(Method m) {
            int depth = 0;
            for (int i = 0; i < m.size; i++) {
                m.mates[i] = NONE;
                depths[i] = depth;
                inside[i] = depth > 0 ? open[depth - 1] : NONE;
                if (m.operations[i] == LOOP) {
                    open[depth] = i;
                    depth++;
                } else if (m.operations[i] == END && depth > 0) {
                    depth--;
                    m.mates[i] = open[depth];
                    m.mates[open[depth]] = i;
                }
            }
        }

        private void findFaultOfForm(Method m) {
            for (int i = 0; i < m.size; i++) {
                int kind = faultOfForm(m, i);
                if (kind != 0) {
                    m.fail(kind, i);
                    return;
                }
            }
        }

        private int faultOfForm(Method m, int i) {
            long arg = m.args[i];
            if (!hasForm(m, i, arg)) {
                return BAD_FORM;
            }
            switch (m.operations[i]) {
                case LOOP:
                    return m.mates[i] == NONE || depths[i] >= MOST_LOOPS ? BAD_BRACKET : 0;
                case END:
                    return m.mates[i] == NONE ? BAD_BRACKET : 0;
                case JUMP:
                case IFNOT:
                    return inside[(int) arg] != inside[i] ? BAD_JUMP : 0;
                case CALL:
                    return program.find(arg) == null ? BAD_CALL : 0;
                default:
                    return 0;
            }
        }

        private boolean hasForm(Method m, int i, long arg) {
            switch (m.operations[i]) {
                case PUSH:
                case CALL:
                    return true;
                case LOAD:
                case STORE:
                    return arg >= 0 && arg < m.locals;
                case OVER:
                    return arg >= 0 && arg <= MOST_HEIGHT;
                case JUMP:
                case IFNOT:
                    return arg > i && m.has(arg);
                case LOOP:
                    return arg >= 0 && arg <= MOST_ROUNDS;
                default:
                    return isOperation(m.operations[i]) && arg == 0;
            }
        }

        /** One pass is enough: all jumps go forward, and an END asks for the HEIGHT of its LOOP. */
        private void findHeights(Method m) {
            Arrays.fill(m.heights, NONE);
            if (m.size == 0) {
                m.fail(NO_RETURN, 0);
                return;
            }
            m.heights[0] = 0;
            for (int i = 0; i < m.size; i++) {
                int kind = m.heights[i] != NONE ? faultOfHeight(m, i) : 0;
                if (kind != 0) {
                    m.fail(kind, i);
                    return;
                }
            }
        }

        private int faultOfHeight(Method m, int i) {
            int before = m.heights[i];
            int taken = takenBy(m, i);
            if (before < taken) {
                return TOO_FEW_WORDS;
            }
            int behind = before - taken + givenBy(m, i);
            if (behind > MOST_HEIGHT) {
                return TOO_HIGH;
            }
            switch (m.operations[i]) {
                case JUMP:
                    return lead(m, m.args[i], behind);
                case IFNOT:
                    int jumped = lead(m, m.args[i], behind);
                    return jumped != 0 ? jumped : lead(m, i + 1, behind);
                case LOOP:
                    return lead(m, m.args[i] > 0 ? i + 1 : m.mates[i] + 1, behind);
                case END:
                    return before != m.heightAt(m.mates[i])
                            ? OTHER_HEIGHT : lead(m, i + 1, behind);
                case RETURN:
                    return behind > 0 ? WORDS_LEFT : 0;
                default:
                    return lead(m, i + 1, behind);
            }
        }

        /** Tells the HEIGHT for an INSTRUCTION that another one comes to; answers the FAULT. */
        private int lead(Method m, long to, int height) {
            if (!m.has(to)) {
                return NO_RETURN;
            }
            int i = (int) to;
            if (m.heights[i] != NONE && m.heights[i] != height) {
                return OTHER_HEIGHT;
            }
            m.heights[i] = height;
            return 0;
        }

        private int takenBy(Method m, int i) {
            switch (m.operations[i]) {
                case OVER:
                    return (int) m.args[i] + 1;
                case CALL:
                    Method called = program.find(m.args[i]);
                    return called == null ? 0 : called.arguments;
                case RETURN:
                    return m.results;
                default:
                    return isOperation(m.operations[i]) ? TAKES[m.operations[i]] : 0;
            }
        }

        private int givenBy(Method m, int i) {
            switch (m.operations[i]) {
                case OVER:
                    return (int) m.args[i] + 2;
                case CALL:
                    Method called = program.find(m.args[i]);
                    return called == null ? 0 : called.results;
                default:
                    return isOperation(m.operations[i]) ? GIVES[m.operations[i]] : 0;
            }
        }
    }

    /** Finds which METHODS are REACHED from one, and has their bounds counted. */
    private static final class Analyser {
        private final Program program;
        private final Bounds bounds;
        /** Of each METHOD a bit for every one that it can come to by CALLS that are MET. */
        private final int[] comesTo;
        private int reached;
        private int faulty;
        private int circular;
        private boolean isBounded;

        Analyser(Program program) {
            this.program = program;
            bounds = new Bounds(program);
            comesTo = new int[MOST_METHODS];
            reached = 0;
            faulty = 0;
            circular = 0;
            isBounded = false;
        }

        int analyseFrom(int start) {
            followCalls();
            reached = comesTo[start] | bit(start);
            faulty = faultyOnes() & reached;
            circular = faulty == 0 ? circularOnes() & reached : 0;
            isBounded = faulty == 0 && circular == 0;
            if (isBounded) {
                return countBounds() ? BOUNDED : BOUND_TOO_GREAT;
            }
            return faulty != 0 ? FAULTY : CIRCULAR;
        }

        int answer(int method, int what) {
            switch (what) {
                case 0:
                    return reached >>> method & 1;
                case 1:
                    return faulty >>> method & 1;
                default:
                    return circular >>> method & 1;
            }
        }

        long boundOf(int method, int what) {
            if (!isBounded || !isIn(method, reached)) {
                return NONE;
            }
            long found = what == 0 ? bounds.stacks[method] : bounds.times[method];
            return found == Bounds.BEYOND ? NONE : found;
        }

        private void followCalls() {
            for (int number = 0; number < program.count; number++) {
                comesTo[number] = callsOf(program.find(number));
            }
            for (int between = 0; between < program.count; between++) {
                for (int number = 0; number < program.count; number++) {
                    if (isIn(between, comesTo[number])) {
                        comesTo[number] |= comesTo[between];
                    }
                }
            }
        }

        private int callsOf(Method m) {
            if (m == null || !m.isSound()) {
                return 0;
            }
            int called = 0;
            for (int i = 0; i < m.size; i++) {
                if (m.operations[i] == CALL && m.isMet(i)) {
                    called |= bit((int) m.args[i]);
                }
            }
            return called;
        }

        private int faultyOnes() {
            int found = 0;
            for (int number = 0; number < program.count; number++) {
                Method m = program.find(number);
                if (m != null && !m.isSound()) {
                    found |= bit(number);
                }
            }
            return found;
        }

        private int circularOnes() {
            int found = 0;
            for (int number = 0; number < program.count; number++) {
                found |= comesTo[number] & bit(number);
            }
            return found;
        }

        /**
         * What is called is counted before what calls it: without cycles, each pass finds at least
         * one METHOD whose callees are all counted. Answers whether no bound is too great.
         */
        private boolean countBounds() {
            boolean areAllTold = true;
            int waiting = reached;
            for (int pass = 0; pass < program.count && waiting != 0; pass++) {
                for (int number = 0; number < program.count; number++) {
                    Method m = program.find(number);
                    if (m != null && isIn(number, waiting) && (comesTo[number] & waiting) == 0) {
                        bounds.stacks[number] = bounds.stackOf(m);
                        bounds.times[number] = bounds.timeOf(m);
                        waiting &= ~bit(number);
                        areAllTold = areAllTold && bounds.times[number] != Bounds.BEYOND;
                    }
                }
            }
            return areAllTold;
        }

        private static int bit(int number) {
            return 1 << number;
        }

        private static boolean isIn(int number, int bits) {
            return (bits & bit(number)) != 0;
        }
    }

    /** STACK and TIME of METHODS without a FAULT: those of what is called must stand before. */
    private static final class Bounds {
        /** Stands for each number above 2^63 - 1: all that is told of those is that. */
        private static final long BEYOND = -2;
        private static final long NO_PATH = -1;

        private final Program program;
        private final long[] stacks;
        private final long[] times;
        /** The longest PATH from each INSTRUCTION to the END of the LOOP that it is in. */
        private final long[] toEnd;
        /** The longest one to a RETURN that does not come to that END. */
        private final long[] toReturn;

        Bounds(Program program) {
            this.program = program;
            stacks = new long[MOST_METHODS];
            times = new long[MOST_METHODS];
            toEnd = new long[MOST_INSTRUCTIONS + 1];
            toReturn = new long[MOST_INSTRUCTIONS + 1];
        }

        /** The HEIGHT behind an INSTRUCTION is that before the next, or no more than its own. */
        long stackOf(Method m) {
            long greatest = 0;
            for (int i = 0; i < m.size; i++) {
                if (m.isMet(i)) {
                    greatest = Math.max(greatest, m.locals + m.heights[i]);
                    greatest = Math.max(greatest, stackOfCall(m, i));
                }
            }
            return greatest;
        }

        private long stackOfCall(Method m, int i) {
            Method called = m.operations[i] == CALL ? program.find(m.args[i]) : null;
            if (called == null) {
                return 0;
            }
            return m.locals + m.heights[i] - called.arguments + WORDS_OF_A_CALL
                    + stacks[(int) m.args[i]];
        }

        /** From the last INSTRUCTION on, since a PATH only goes forward but for its LOOPS. */
        long timeOf(Method m) {
            toEnd[m.size] = NO_PATH;
            toReturn[m.size] = NO_PATH;
            for (int i = m.size - 1; i >= 0; i--) {
                toEnd[i] = NO_PATH;
                toReturn[i] = NO_PATH;
                if (m.isMet(i)) {
                    lengthen(m, i);
                }
            }
            return toReturn[0];
        }

        private void lengthen(Method m, int i) {
            long own = program.costOf(m.operations[i]);
            switch (m.operations[i]) {
                case RETURN:
                    toReturn[i] = own;
                    break;
                case END:
                    toEnd[i] = own;
                    break;
                case JUMP:
                    goTo(i, own, (int) m.args[i]);
                    break;
                case IFNOT:
                    goTo(i, own, i + 1);
                    goTo(i, own, (int) m.args[i]);
                    break;
                case LOOP:
                    if (m.args[i] > 0) {
                        goThrough(m, i, own);
                    } else {
                        goTo(i, own, m.mates[i] + 1);
                    }
                    break;
                case CALL:
                    goTo(i, plus(own, timeOfCall(m, i)), i + 1);
                    break;
                default:
                    goTo(i, own, i + 1);
            }
        }

        private long timeOfCall(Method m, int i) {
            return program.find(m.args[i]) == null ? 0 : times[(int) m.args[i]];
        }

        private void goTo(int i, long own, int to) {
            toEnd[i] = greater(toEnd[i], plus(own, toEnd[to]));
            toReturn[i] = greater(toReturn[i], plus(own, toReturn[to]));
        }

        /** A PATH that is to RETURN within is the longest if it does so the last time. */
        private void goThrough(Method m, int i, long own) {
            long round = toEnd[i + 1];
            int behind = m.mates[i] + 1;
            long through = plus(own, repeated(round, m.args[i]));
            long before = round == NO_PATH ? own : plus(own, repeated(round, m.args[i] - 1));
            toEnd[i] = plus(through, toEnd[behind]);
            toReturn[i] = greater(plus(through, toReturn[behind]), plus(before, toReturn[i + 1]));
        }

        private static long plus(long a, long b) {
            if (a == NO_PATH || b == NO_PATH) {
                return NO_PATH;
            }
            if (a == BEYOND || b == BEYOND || a + b < 0) {
                return BEYOND;
            }
            return a + b;
        }

        private static long repeated(long a, long rounds) {
            if (a == NO_PATH) {
                return NO_PATH;
            }
            if (a == 0 || rounds == 0) {
                return 0;
            }
            return a == BEYOND || rounds > Long.MAX_VALUE / a ? BEYOND : a * rounds;
        }

        private static long greater(long a, long b) {
            if (a == BEYOND || b == BEYOND) {
                return BEYOND;
            }
            return a > b ? a : b;
        }
    }

    /** Runs METHODS, and holds what the last RUN came to. */
    private static final class Machine {
        private final Program program;
        /**
         * LOCALS and then words of each METHOD that is being done, one behind the other: so the
         * ARGUMENTS of a CALL become LOCALS where they lie, and the length is what WORDS count.
         */
        private final long[] words;
        /** How often each LOOP that is being done has still to come to its END. */
        private final int[] rounds;
        private final Method[] doing;
        private final int[] nexts;
        private final int[] bases;
        private final int[] loopBases;
        private int depth;
        private int top;
        private int loops;
        private long result;
        private long cycles;
        private int mostWords;
        private int done;
        private int calls;

        Machine(Program program) {
            this.program = program;
            words = new long[MOST_FRAMES * (MOST_LOCALS + MOST_HEIGHT)];
            rounds = new int[MOST_FRAMES * MOST_LOOPS];
            doing = new Method[MOST_FRAMES];
            nexts = new int[MOST_FRAMES];
            bases = new int[MOST_FRAMES];
            loopBases = new int[MOST_FRAMES];
        }

        long answer(int what) {
            switch (what) {
                case 0:
                    return result;
                case 1:
                    return cycles;
                case 2:
                    return mostWords;
                case 3:
                    return done;
                default:
                    return calls;
            }
        }

        int perform(Method first, long[] given, int most) {
            reset();
            if (!first.isSound()) {
                return MET_A_FAULT;
            }
            for (int k = 0; k < first.arguments && k < given.length; k++) {
                push(given[k]);
            }
            enter(first, 0);
            for (int k = 0; k < most; k++) {
                int end = doNext();
                if (end != GOES_ON) {
                    return end;
                }
            }
            return OUT_OF_STEPS;
        }

        private void reset() {
            top = 0;
            loops = 0;
            result = 0;
            cycles = 0;
            mostWords = 0;
            done = 0;
            calls = 0;
        }

        private int doNext() {
            Method m = doing[depth];
            int i = nexts[depth];
            if (m == null || !m.has(i)) {
                return MET_A_FAULT;
            }
            int operation = m.operations[i];
            Method called = operation == CALL ? program.find(m.args[i]) : null;
            int refused = operation == CALL ? refuse(called) : GOES_ON;
            if (refused != GOES_ON) {
                return refused;
            }
            done++;
            cycles += program.costOf(operation);
            nexts[depth] = i + 1;
            if (operation == RETURN) {
                return leave(m);
            }
            if (called != null) {
                calls++;
                enter(called, depth + 1);
            } else if (operation >= JUMP) {
                flow(m, i);
            } else {
                handle(operation, m.args[i]);
            }
            countWords();
            return GOES_ON;
        }

        private int refuse(Method called) {
            if (called == null || !called.isSound()) {
                return MET_A_FAULT;
            }
            return depth + 1 >= MOST_FRAMES ? TOO_DEEP : GOES_ON;
        }

        private void enter(Method m, int at) {
            depth = at;
            doing[depth] = m;
            nexts[depth] = 0;
            bases[depth] = top - m.arguments;
            loopBases[depth] = loops;
            for (int l = m.arguments; l < m.locals; l++) {
                push(0);
            }
            countWords();
        }

        private int leave(Method m) {
            long answer = m.results > 0 ? pop() : 0;
            top = bases[depth];
            loops = loopBases[depth];
            if (depth == 0) {
                result = answer;
                return RETURNED;
            }
            depth--;
            if (m.results > 0) {
                push(answer);
            }
            return GOES_ON;
        }

        private void flow(Method m, int i) {
            int arg = (int) m.args[i];
            int behindMate = m.mates[i] + 1;
            switch (m.operations[i]) {
                case JUMP:
                    nexts[depth] = arg;
                    break;
                case IFNOT:
                    nexts[depth] = pop() == 0 ? arg : i + 1;
                    break;
                case LOOP:
                    nexts[depth] = opensLoop(arg) ? i + 1 : behindMate;
                    break;
                default:
                    nexts[depth] = goesRound() ? behindMate : i + 1;
            }
        }

        private boolean opensLoop(int times) {
            if (times <= 0 || loops >= rounds.length) {
                return false;
            }
            rounds[loops] = times;
            loops++;
            return true;
        }

        private boolean goesRound() {
            if (loops <= 0 || loops > rounds.length) {
                return false;
            }
            rounds[loops - 1]--;
            if (rounds[loops - 1] > 0) {
                return true;
            }
            loops--;
            return false;
        }

        private void handle(int operation, long arg) {
            switch (operation) {
                case PUSH:
                    push(arg);
                    break;
                case POP:
                    pop();
                    break;
                case DUP:
                    push(read(top - 1));
                    break;
                case SWAP:
                    swap();
                    break;
                case LOAD:
                    push(read(bases[depth] + (int) arg));
                    break;
                case STORE:
                    write(bases[depth] + (int) arg, pop());
                    break;
                case OVER:
                    push(read(top - 1 - (int) arg));
                    break;
                default:
                    long upper = pop();
                    push(compute(operation, pop(), upper));
            }
        }

        private void swap() {
            long upper = pop();
            long lower = pop();
            push(upper);
            push(lower);
        }

        private static long compute(int operation, long lower, long upper) {
            switch (operation) {
                case ADD:
                    return lower + upper;
                case SUB:
                    return lower - upper;
                case MUL:
                    return lower * upper;
                case LESS:
                    return lower < upper ? 1 : 0;
                default:
                    return upper == 0 ? 0 : lower / upper;
            }
        }

        private void push(long word) {
            write(top, word);
            top++;
        }

        private long pop() {
            top--;
            return read(top);
        }

        private long read(int at) {
            return at >= 0 && at < words.length ? words[at] : 0;
        }

        private void write(int at, long word) {
            if (at >= 0 && at < words.length) {
                words[at] = word;
            }
        }

        private void countWords() {
            mostWords = Math.max(mostWords, top + WORDS_OF_A_CALL * depth);
        }
    }
}
