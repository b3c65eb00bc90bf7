import java.util.Random;

/** Runs of calls, always the same ones, that the class must answer as the literal model does. */
public final class LiteralModelTest {
    private static final int CALLS_OF_AN_OBJECT = 512;
    private static final int[] FAR = {Integer.MIN_VALUE, -32, -1, 24, 31, 32, 40, 101, Integer.MAX_VALUE};
    private static final Check CHECK = new Check();

    private final Random random;
    private final String run;
    private final SwitchLevelSimulator s = new SwitchLevelSimulator();
    private final LiteralModel m = new LiteralModel();
    private int calls = 0;

    private LiteralModelTest(int seed) {
        random = new Random(seed);
        run = "run " + seed + ", call ";
    }

    public static void main(String[] args) {
        int runs = args.length > 0 ? Integer.parseInt(args[0]) : 300;
        for (int seed = 0; seed < runs; seed++) {
            new LiteralModelTest(seed).runAll();
        }
        CHECK.finish();
    }

    private void runAll() {
        int nodes = random.nextInt(25);
        int transistors = random.nextInt(41);
        boolean gates = random.nextBoolean();
        int rails = random.nextInt(3) > 0 ? 2 : 0;
        for (int i = 0; i < rails; i++) {
            due("addInput", s.addInput(), m.addInput());
            setValue(i, i);
        }
        for (int i = rails; i < nodes; i++) {
            addNode();
            setValue(i, random.nextInt(3));
        }
        for (int i = 0; i < transistors; i++) {
            if (gates && random.nextInt(3) > 0) {
                addGate();
            } else {
                addTransistor(node(), node(), node());
            }
        }
        while (calls < CALLS_OF_AN_OBJECT - 20) {
            anyCall();
        }
        lookAround();
    }

    private void due(String call, int got, int want) {
        calls++;
        CHECK.due(run + calls + ": " + call, got, want);
    }

    /** Mostly a node that exists, seldom one that does not. */
    private int node() {
        return random.nextInt(60) == 0 ? far() : random.nextInt(Math.max(1, m.nodeCount()));
    }

    private int transistor() {
        return random.nextInt(60) == 0 ? far() : random.nextInt(Math.max(1, m.transistorCount()));
    }

    private int upTo(int most) {
        return random.nextInt(60) == 0 ? far() : random.nextInt(most + 1);
    }

    private int limit() {
        switch (random.nextInt(30)) {
            case 0:
                return far();
            case 1:
                return 100;
            case 2:
                return 0;
            default:
                return 1 + random.nextInt(random.nextInt(5) == 0 ? 30 : 6);
        }
    }

    private int far() {
        return FAR[random.nextInt(FAR.length)];
    }

    private void addNode() {
        if (random.nextInt(4) == 0) {
            due("addInput", s.addInput(), m.addInput());
        } else {
            int size = upTo(3);
            due("addStorage " + size, s.addStorage(size), m.addStorage(size));
        }
    }

    private void addTransistor(int gate, int one, int other) {
        int type = upTo(2);
        int strength = random.nextInt(60) == 0 ? far() : 1 + random.nextInt(3);
        due("addTransistor", s.addTransistor(type, strength, gate, one, other),
                m.addTransistor(type, strength, gate, one, other));
    }

    /** Both transistors of an inverter if nodes 0 and 1 are rails, so that rings and latches come about. */
    private void addGate() {
        int in = node();
        int out = node();
        int strength = 1 + random.nextInt(3);
        due("addTransistor", s.addTransistor(0, strength, in, out, 0), m.addTransistor(0, strength, in, out, 0));
        due("addTransistor", s.addTransistor(1, strength, in, out, 1), m.addTransistor(1, strength, in, out, 1));
    }

    private void setValue(int node, int value) {
        due("setInput " + node + " " + value, s.setInput(node, value), m.setInput(node, value));
        due("setCharge " + node + " " + value, s.setCharge(node, value), m.setCharge(node, value));
    }

    private void anyCall() {
        switch (random.nextInt(18)) {
            case 0:
                changeCircuit();
                break;
            case 1:
            case 2:
            case 3:
                setValue(node(), upTo(2));
                break;
            case 4:
            case 5:
                simulate();
                break;
            case 6:
                fault();
                break;
            case 7:
                saving();
                break;
            case 8:
                detection();
                break;
            default:
                askNode(node());
        }
    }

    private void changeCircuit() {
        if (random.nextInt(6) == 0) {
            addNode();
        } else {
            addTransistor(node(), node(), node());
        }
    }

    private void simulate() {
        int limit = limit();
        switch (random.nextInt(5)) {
            case 0:
                due("settle " + limit, s.settle(limit), m.settle(limit));
                break;
            case 1:
                due("period " + limit, s.period(limit), m.period(limit));
                break;
            case 2:
                due("active", s.active(), m.active());
                break;
            default:
                due("step", s.step(), m.step());
        }
        for (int value = 0; value <= 2; value++) {
            due("nodesWith " + value, s.nodesWith(value), m.nodesWith(value));
        }
    }

    private void fault() {
        if (random.nextInt(12) == 0) {
            due("clearFaults", s.clearFaults(), m.clearFaults());
            return;
        }
        int transistor = transistor();
        int fault = upTo(2);
        due("setFault " + transistor + " " + fault, s.setFault(transistor, fault), m.setFault(transistor, fault));
    }

    private void saving() {
        int slot = upTo(1);
        switch (random.nextInt(5)) {
            case 0:
                due("forget", s.forget(), m.forget());
                break;
            case 1:
            case 2:
                due("save " + slot, s.save(slot), m.save(slot));
                break;
            default:
                due("restore " + slot, s.restore(slot), m.restore(slot));
        }
    }

    private void detection() {
        int node = node();
        int limit = limit();
        if (random.nextInt(8) == 0) {
            due("detectedFaults " + node + " " + limit, s.detectedFaults(node, limit), m.detectedFaults(node, limit));
            return;
        }
        int transistor = transistor();
        int fault = upTo(2);
        due("detects " + transistor + " " + fault + " " + node + " " + limit,
                s.detects(transistor, fault, node, limit), m.detects(transistor, fault, node, limit));
    }

    /** One question, so that no answer can lean on what another one has worked out. */
    private void askNode(int node) {
        switch (random.nextInt(7)) {
            case 0:
                due("value " + node, s.value(node), m.value(node));
                break;
            case 1:
                due("definiteStrength " + node, s.definiteStrength(node), m.definiteStrength(node));
                break;
            case 2:
                due("upStrength " + node, s.upStrength(node), m.upStrength(node));
                break;
            case 3:
                due("downStrength " + node, s.downStrength(node), m.downStrength(node));
                break;
            case 4:
                due("steadyValue " + node, s.steadyValue(node), m.steadyValue(node));
                break;
            case 5:
                due("vicinity " + node, s.vicinity(node), m.vicinity(node));
                break;
            default:
                int transistor = transistor();
                due("switchState " + transistor, s.switchState(transistor), m.switchState(transistor));
        }
    }

    private void lookAround() {
        due("nodeCount", s.nodeCount(), m.nodeCount());
        due("transistorCount", s.transistorCount(), m.transistorCount());
        due("inputs", s.inputs(), m.inputs());
        due("active", s.active(), m.active());
        int value = upTo(2);
        due("nodesWith " + value, s.nodesWith(value), m.nodesWith(value));
    }
}
