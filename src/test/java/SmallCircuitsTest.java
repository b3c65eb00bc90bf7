/**
 * Circuits of two nodes with two transistors between them, and of three nodes in a row: every kind of node,
 * value, type, strength and gate with every other. The literal model says what is due.
 *
 * With the argument 1 all of them are asked about, without one every 13th.
 */
public final class SmallCircuitsTest {
    private static final int D = 2;
    /** An input node or a storage node of one of three sizes, each with one of three values. */
    private static final int NODE_KINDS = 4 * 3;
    private static final int LIMIT = 4;
    private static final Check CHECK = new Check();

    private final SideBySide both;

    private SmallCircuitsTest(String circuit) {
        both = new SideBySide(CHECK, circuit);
    }

    public static void main(String[] args) {
        int stride = args.length > 0 ? Integer.parseInt(args[0]) : 13;
        for (int nodes = 2; nodes <= 3; nodes++) {
            int gateKinds = transistorKinds(nodes);
            int circuits = (nodes == 2 ? NODE_KINDS : NODE_KINDS * NODE_KINDS) * NODE_KINDS * gateKinds * gateKinds;
            for (int circuit = 0; circuit < circuits; circuit += stride) {
                new SmallCircuitsTest(nodes + " nodes, circuit " + circuit).run(nodes, circuit);
            }
        }
        CHECK.finish();
    }

    /** Three strengths of N and P with every gate, and of D, where the gate does not matter, with one. */
    private static int transistorKinds(int nodes) {
        return 3 * (2 * nodes + 1);
    }

    private void run(int nodes, int circuit) {
        int rest = circuit;
        for (int node = 0; node < nodes; node++) {
            addNode(node, rest % NODE_KINDS);
            rest /= NODE_KINDS;
        }
        addTransistor(nodes, rest % transistorKinds(nodes), 0, 1);
        addTransistor(nodes, rest / transistorKinds(nodes), nodes - 1, nodes - 2);
        askAll(nodes);
        for (int node = 0; node < nodes; node++) {
            both.detectedFaults(node, LIMIT);
        }
        both.period(LIMIT);
        both.settle(LIMIT);
        askValues();
    }

    private void addNode(int node, int kind) {
        int size = kind / 3;
        if (size == 0) {
            both.addInput();
            both.setInput(node, kind % 3);
        } else {
            both.addStorage(size);
            both.setCharge(node, kind % 3);
        }
    }

    private void addTransistor(int nodes, int kind, int one, int other) {
        int typeAndGate = kind / 3;
        int type = Math.min(typeAndGate / nodes, D);
        both.addTransistor(type, 1 + kind % 3, typeAndGate % nodes, one, other);
    }

    private void askAll(int nodes) {
        for (int node = 0; node < nodes; node++) {
            both.definiteStrength(node);
            both.upStrength(node);
            both.downStrength(node);
            both.steadyValue(node);
            both.vicinity(node);
        }
        both.active();
    }

    private void askValues() {
        for (int value = 0; value <= 2; value++) {
            both.nodesWith(value);
        }
    }
}
