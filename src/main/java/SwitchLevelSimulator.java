/**
 * A switch-level simulator for MOS transistor circuits with the values 0, 1 and X.
 *
 * Everything is held in sets of nodes (bit n for node n). The values are two such sets, the nodes
 * that may be 0 and the nodes that may be 1, because a step then needs no table of values: the
 * nodes with a down strength are those that may be 0 next, and the nodes with an up strength are
 * those that may be 1 next.
 */
public final class SwitchLevelSimulator {
    public static final int NO_SUCH_NODE = -1, NO_SUCH_TRANSISTOR = -2, OUT_OF_RANGE = -3, SAME_NODE = -4, WRONG_NODE = -5, FULL = -6, UNSTABLE = -7, NONE = -8, NOT_SAVED = -9;
    public static final int X = 2;
    public static final int N = 0, P = 1, D = 2;
    public static final int OPEN = 0, CLOSED = 1, UNKNOWN = 2;
    public static final int NO_FAULT = 0, STUCK_OPEN = 1, STUCK_CLOSED = 2;

    private static final int MOST_NODES = 24;
    private static final int MOST_TRANSISTORS = 40;
    private static final int MOST_STEPS = 100;
    private static final int SLOTS = 2;
    /** Sizes of storage nodes and strengths of transistors go from 1 to this. */
    private static final int MOST_STRENGTH = 3;
    /** The signal strength of an input node, which no transistor passes on whole. */
    private static final int INPUT_LEVEL = 7;

    private final Circuit circuit;
    /** Works in place of the circuit where a call looks ahead without changing anything. */
    private final Circuit trial;
    /** A slot is null until something is saved there. */
    private final Circuit[] slots;
    private final SteadyState steady;

    public SwitchLevelSimulator() {
        circuit = new Circuit();
        trial = new Circuit();
        slots = new Circuit[SLOTS];
        steady = new SteadyState();
    }

    public int addInput() {
        if (circuit.nodeTotal >= MOST_NODES) {
            return FULL;
        }
        return circuit.appendInput();
    }

    public int addStorage(int size) {
        if (!isWithin(size, 1, MOST_STRENGTH)) {
            return OUT_OF_RANGE;
        }
        if (circuit.nodeTotal >= MOST_NODES) {
            return FULL;
        }
        return circuit.appendStorage(size);
    }

    public int addTransistor(int type, int strength, int gate, int one, int other) {
        if (!circuit.hasNode(gate) || !circuit.hasNode(one) || !circuit.hasNode(other)) {
            return NO_SUCH_NODE;
        }
        if (one == other) {
            return SAME_NODE;
        }
        if (!isWithin(type, N, D) || !isWithin(strength, 1, MOST_STRENGTH)) {
            return OUT_OF_RANGE;
        }
        if (circuit.transistorTotal >= MOST_TRANSISTORS) {
            return FULL;
        }
        return circuit.appendTransistor(type, strength, gate, one, other);
    }

    public int nodeCount() {
        return circuit.nodeTotal;
    }

    public int transistorCount() {
        return circuit.transistorTotal;
    }

    public int inputs() {
        return circuit.inputNodes;
    }

    public int setInput(int node, int value) {
        return replaceValue(node, value, true);
    }

    public int setCharge(int node, int value) {
        return replaceValue(node, value, false);
    }

    public int forget() {
        return circuit.forgetCharges();
    }

    public int value(int node) {
        if (!circuit.hasNode(node)) {
            return NO_SUCH_NODE;
        }
        return circuit.valueOf(node);
    }

    public int nodesWith(int value) {
        if (!isValue(value)) {
            return OUT_OF_RANGE;
        }
        return circuit.nodesOfValue(value);
    }

    public int switchState(int transistor) {
        if (!circuit.hasTransistor(transistor)) {
            return NO_SUCH_TRANSISTOR;
        }
        return circuit.stateOf(transistor);
    }

    public int definiteStrength(int node) {
        if (!circuit.hasNode(node)) {
            return NO_SUCH_NODE;
        }
        steady.find(circuit);
        return steady.definiteLevel(node);
    }

    public int upStrength(int node) {
        if (!circuit.hasNode(node)) {
            return NO_SUCH_NODE;
        }
        steady.find(circuit);
        return steady.upLevel(node);
    }

    public int downStrength(int node) {
        if (!circuit.hasNode(node)) {
            return NO_SUCH_NODE;
        }
        steady.find(circuit);
        return steady.downLevel(node);
    }

    public int steadyValue(int node) {
        if (!circuit.hasNode(node)) {
            return NO_SUCH_NODE;
        }
        trial.copyFrom(circuit);
        advance(trial);
        return trial.valueOf(node);
    }

    public int vicinity(int node) {
        if (!circuit.hasNode(node)) {
            return NO_SUCH_NODE;
        }
        if (circuit.isInput(node)) {
            return 0;
        }
        return steady.storageAround(node, circuit);
    }

    public int step() {
        return advance(circuit);
    }

    public int settle(int limit) {
        if (!isLimit(limit)) {
            return OUT_OF_RANGE;
        }
        return settleWithin(circuit, limit);
    }

    public int active() {
        steady.find(circuit);
        return steady.changesOf(circuit);
    }

    public int period(int limit) {
        if (!isLimit(limit)) {
            return OUT_OF_RANGE;
        }
        trial.copyFrom(circuit);
        for (int steps = 1; steps <= limit; steps++) {
            advance(trial);
            if (trial.hasValuesOf(circuit)) {
                return steps;
            }
        }
        return NONE;
    }

    public int setFault(int transistor, int fault) {
        if (!circuit.hasTransistor(transistor)) {
            return NO_SUCH_TRANSISTOR;
        }
        if (!isWithin(fault, NO_FAULT, STUCK_CLOSED)) {
            return OUT_OF_RANGE;
        }
        return circuit.replaceFault(transistor, fault);
    }

    public int clearFaults() {
        return circuit.removeFaults();
    }

    public int detects(int transistor, int fault, int node, int limit) {
        if (!circuit.hasTransistor(transistor)) {
            return NO_SUCH_TRANSISTOR;
        }
        if (!circuit.hasNode(node)) {
            return NO_SUCH_NODE;
        }
        if (!isWithin(fault, STUCK_OPEN, STUCK_CLOSED) || !isLimit(limit)) {
            return OUT_OF_RANGE;
        }
        trial.copyFrom(circuit);
        int expected = settledTrialValue(node, limit);
        trial.copyWithFault(circuit, transistor, fault);
        int seen = settledTrialValue(node, limit);
        return areOpposite(expected, seen) ? 1 : 0;
    }

    public int detectedFaults(int node, int limit) {
        if (!circuit.hasNode(node)) {
            return NO_SUCH_NODE;
        }
        if (!isLimit(limit)) {
            return OUT_OF_RANGE;
        }
        trial.copyFrom(circuit);
        int expected = settledTrialValue(node, limit);
        // Nothing is opposite to X, so the many trials below could find nothing.
        if (expected == X) {
            return 0;
        }
        int detected = 0;
        for (int transistor = 0; transistor < circuit.transistorTotal; transistor++) {
            for (int fault = STUCK_OPEN; fault <= STUCK_CLOSED; fault++) {
                trial.copyWithFault(circuit, transistor, fault);
                if (areOpposite(expected, settledTrialValue(node, limit))) {
                    detected++;
                }
            }
        }
        return detected;
    }

    public int save(int slot) {
        if (!isWithin(slot, 0, SLOTS - 1)) {
            return OUT_OF_RANGE;
        }
        Circuit kept = slots[slot];
        if (kept == null) {
            kept = new Circuit();
            slots[slot] = kept;
        }
        kept.copyFrom(circuit);
        return circuit.nodeTotal;
    }

    public int restore(int slot) {
        if (!isWithin(slot, 0, SLOTS - 1)) {
            return OUT_OF_RANGE;
        }
        Circuit kept = slots[slot];
        if (kept == null) {
            return NOT_SAVED;
        }
        circuit.copyFrom(kept);
        return circuit.nodeTotal;
    }

    private int replaceValue(int node, int value, boolean ofInput) {
        if (!circuit.hasNode(node)) {
            return NO_SUCH_NODE;
        }
        if (circuit.isInput(node) != ofInput) {
            return WRONG_NODE;
        }
        if (!isValue(value)) {
            return OUT_OF_RANGE;
        }
        int previous = circuit.valueOf(node);
        circuit.putValue(node, value);
        return previous;
    }

    /** Makes one step and returns the set of nodes that it changed. */
    private int advance(Circuit subject) {
        steady.find(subject);
        int changes = steady.changesOf(subject);
        steady.putInto(subject);
        return changes;
    }

    private int settleWithin(Circuit subject, int limit) {
        for (int steps = 0; steps <= limit; steps++) {
            steady.find(subject);
            if (steady.changesOf(subject) == 0) {
                return steps;
            }
            // The last round only looks whether the last step has made the circuit stable.
            if (steps < limit) {
                steady.putInto(subject);
            }
        }
        return UNSTABLE;
    }

    /** X stands for a trial that does not settle, too, because neither can show a fault. */
    private int settledTrialValue(int node, int limit) {
        if (settleWithin(trial, limit) == UNSTABLE) {
            return X;
        }
        return trial.valueOf(node);
    }

    private static boolean areOpposite(int value, int another) {
        return value != X && another != X && value != another;
    }

    private static boolean isValue(int value) {
        return isWithin(value, 0, X);
    }

    private static boolean isLimit(int limit) {
        return isWithin(limit, 1, MOST_STEPS);
    }

    private static boolean isWithin(int number, int least, int most) {
        return number >= least && number <= most;
    }

    /** Nodes, transistors, values and faults: all that is saved and restored. */
    private static final class Circuit {
        int nodeTotal;
        int inputNodes;
        int storageNodes;
        /** Under each signal strength, the storage nodes whose size is at least that. */
        final int[] sizedAtLeast = new int[INPUT_LEVEL + 1];
        int mayBeZero;
        int mayBeOne;

        int transistorTotal;
        final int[] types = new int[MOST_TRANSISTORS];
        final int[] strengths = new int[MOST_TRANSISTORS];
        final int[] gates = new int[MOST_TRANSISTORS];
        final int[] ones = new int[MOST_TRANSISTORS];
        final int[] others = new int[MOST_TRANSISTORS];
        final int[] faults = new int[MOST_TRANSISTORS];

        boolean hasNode(int node) {
            return node >= 0 && node < nodeTotal;
        }

        boolean hasTransistor(int transistor) {
            return transistor >= 0 && transistor < transistorTotal;
        }

        boolean isInput(int node) {
            return (inputNodes & (1 << node)) != 0;
        }

        int appendInput() {
            inputNodes |= 1 << nodeTotal;
            return appendUnknownNode();
        }

        int appendStorage(int size) {
            storageNodes |= 1 << nodeTotal;
            for (int level = 1; level <= size; level++) {
                sizedAtLeast[level] |= 1 << nodeTotal;
            }
            return appendUnknownNode();
        }

        private int appendUnknownNode() {
            int node = nodeTotal;
            nodeTotal++;
            putValue(node, X);
            return node;
        }

        int appendTransistor(int type, int strength, int gate, int one, int other) {
            int transistor = transistorTotal;
            transistorTotal++;
            types[transistor] = type;
            strengths[transistor] = strength;
            gates[transistor] = gate;
            ones[transistor] = one;
            others[transistor] = other;
            // The row may still hold the fault of a transistor that a restore took away.
            faults[transistor] = NO_FAULT;
            return transistor;
        }

        int valueOf(int node) {
            boolean zero = (mayBeZero & (1 << node)) != 0;
            boolean one = (mayBeOne & (1 << node)) != 0;
            if (zero && one) {
                return X;
            }
            return one ? 1 : 0;
        }

        void putValue(int node, int value) {
            int bit = 1 << node;
            mayBeZero = value == 1 ? mayBeZero & ~bit : mayBeZero | bit;
            mayBeOne = value == 0 ? mayBeOne & ~bit : mayBeOne | bit;
        }

        int nodesOfValue(int value) {
            if (value == X) {
                return mayBeZero & mayBeOne;
            }
            return value == 1 ? mayBeOne & ~mayBeZero : mayBeZero & ~mayBeOne;
        }

        boolean hasValuesOf(Circuit another) {
            return mayBeZero == another.mayBeZero && mayBeOne == another.mayBeOne;
        }

        int forgetCharges() {
            int known = Integer.bitCount(storageNodes & ~nodesOfValue(X));
            mayBeZero |= storageNodes;
            mayBeOne |= storageNodes;
            return known;
        }

        int stateOf(int transistor) {
            if (faults[transistor] == STUCK_OPEN) {
                return OPEN;
            }
            if (faults[transistor] == STUCK_CLOSED || types[transistor] == D) {
                return CLOSED;
            }
            int gateValue = valueOf(gates[transistor]);
            if (gateValue == X) {
                return UNKNOWN;
            }
            int closingValue = types[transistor] == N ? 1 : 0;
            return gateValue == closingValue ? CLOSED : OPEN;
        }

        int replaceFault(int transistor, int fault) {
            int previous = faults[transistor];
            faults[transistor] = fault;
            return previous;
        }

        int removeFaults() {
            int removed = 0;
            for (int transistor = 0; transistor < transistorTotal; transistor++) {
                if (replaceFault(transistor, NO_FAULT) != NO_FAULT) {
                    removed++;
                }
            }
            return removed;
        }

        void copyWithFault(Circuit source, int transistor, int fault) {
            copyFrom(source);
            faults[transistor] = fault;
        }

        void copyFrom(Circuit source) {
            nodeTotal = source.nodeTotal;
            inputNodes = source.inputNodes;
            storageNodes = source.storageNodes;
            System.arraycopy(source.sizedAtLeast, 0, sizedAtLeast, 0, sizedAtLeast.length);
            mayBeZero = source.mayBeZero;
            mayBeOne = source.mayBeOne;
            transistorTotal = source.transistorTotal;
            System.arraycopy(source.types, 0, types, 0, transistorTotal);
            System.arraycopy(source.strengths, 0, strengths, 0, transistorTotal);
            System.arraycopy(source.gates, 0, gates, 0, transistorTotal);
            System.arraycopy(source.ones, 0, ones, 0, transistorTotal);
            System.arraycopy(source.others, 0, others, 0, transistorTotal);
            System.arraycopy(source.faults, 0, faults, 0, transistorTotal);
        }
    }

    /**
     * The numbers q, u and d of a circuit, each held as seven sets: under each level the nodes
     * whose number is at least that level. A signal of some level passes a transistor whole or not
     * at all, so each set is what can be reached from its sources, and the smallest solution.
     */
    private static final class SteadyState {
        private final int[] definite = new int[INPUT_LEVEL + 1];
        private final int[] up = new int[INPUT_LEVEL + 1];
        private final int[] down = new int[INPUT_LEVEL + 1];
        /** Under each transistor strength and node, the neighbors by transistors at least so strong. */
        private final int[][] byClosed = new int[MOST_STRENGTH + 1][MOST_NODES];
        private final int[][] byNotOpen = new int[MOST_STRENGTH + 1][MOST_NODES];

        void find(Circuit circuit) {
            findNeighbors(circuit);
            findDefinite(circuit);
            findSide(up, circuit.mayBeOne, circuit);
            findSide(down, circuit.mayBeZero, circuit);
        }

        int definiteLevel(int node) {
            return levelIn(definite, node);
        }

        int upLevel(int node) {
            return levelIn(up, node);
        }

        int downLevel(int node) {
            return levelIn(down, node);
        }

        int changesOf(Circuit circuit) {
            return (up[1] ^ circuit.mayBeOne) | (down[1] ^ circuit.mayBeZero);
        }

        void putInto(Circuit circuit) {
            circuit.mayBeOne = up[1];
            circuit.mayBeZero = down[1];
        }

        int storageAround(int node, Circuit circuit) {
            findNeighbors(circuit);
            return reach(1 << node, byNotOpen[1], circuit.storageNodes);
        }

        private void findDefinite(Circuit circuit) {
            definite[INPUT_LEVEL] = circuit.inputNodes;
            for (int level = INPUT_LEVEL - 1; level >= 1; level--) {
                int sources = definite[level + 1] | circuit.sizedAtLeast[level];
                definite[level] = reach(sources, byClosed[strengthPassing(level)], circuit.storageNodes);
            }
        }

        /** A node lets in no signal below its definite strength, so it is reached there or above. */
        private void findSide(int[] side, int carriers, Circuit circuit) {
            side[INPUT_LEVEL] = circuit.inputNodes & carriers;
            for (int level = INPUT_LEVEL - 1; level >= 1; level--) {
                int receptive = circuit.storageNodes & ~definite[level + 1];
                int sources = side[level + 1] | (circuit.sizedAtLeast[level] & carriers & receptive);
                side[level] = reach(sources, byNotOpen[strengthPassing(level)], receptive);
            }
        }

        /** The weakest transistors pass level 4, and with it every level that storage nodes give. */
        private static int strengthPassing(int level) {
            return Math.max(1, level - MOST_STRENGTH);
        }

        private void findNeighbors(Circuit circuit) {
            for (int strength = 1; strength <= MOST_STRENGTH; strength++) {
                for (int node = 0; node < circuit.nodeTotal; node++) {
                    byClosed[strength][node] = 0;
                    byNotOpen[strength][node] = 0;
                }
            }
            for (int transistor = 0; transistor < circuit.transistorTotal; transistor++) {
                int state = circuit.stateOf(transistor);
                if (state != OPEN) {
                    connect(byNotOpen, circuit, transistor);
                }
                if (state == CLOSED) {
                    connect(byClosed, circuit, transistor);
                }
            }
        }

        private static void connect(int[][] neighbors, Circuit circuit, int transistor) {
            int one = circuit.ones[transistor];
            int other = circuit.others[transistor];
            for (int strength = 1; strength <= circuit.strengths[transistor]; strength++) {
                neighbors[strength][one] |= 1 << other;
                neighbors[strength][other] |= 1 << one;
            }
        }

        /** The sources, and the allowed nodes that a way through allowed nodes joins to them. */
        private static int reach(int sources, int[] neighbors, int allowed) {
            // Most calls find nothing left, because a stronger level has settled every node.
            int left = allowed & ~sources;
            int waiting = sources;
            for (int visits = 0; visits < MOST_NODES && left != 0; visits++) {
                int node = Integer.numberOfTrailingZeros(waiting);
                // Without a node that waits, this is the number of bits in an int.
                if (node >= neighbors.length) {
                    break;
                }
                int joined = neighbors[node] & left;
                left &= ~joined;
                waiting = (waiting & (waiting - 1)) | joined;
            }
            return sources | (allowed & ~left);
        }

        private static int levelIn(int[] levels, int node) {
            int level = 0;
            while (level < INPUT_LEVEL && (levels[level + 1] & (1 << node)) != 0) {
                level++;
            }
            return level;
        }
    }
}
