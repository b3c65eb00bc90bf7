import java.util.Random;

/** Runs of calls, always the same ones, that the class must answer as the literal model does. */
public final class LiteralModelTest {
    private static final int CALLS_OF_AN_OBJECT = 512;
    private static final int[] FAR = {Integer.MIN_VALUE, -32, -1, 24, 31, 32, 40, 101, Integer.MAX_VALUE};
    private static final Check CHECK = new Check();

    private final Random random;
    private final SideBySide both;

    private LiteralModelTest(int seed) {
        random = new Random(seed);
        both = new SideBySide(CHECK, "run " + seed);
    }

    public static void main(String[] args) {
        int runs = args.length > 0 ? Integer.parseInt(args[0]) : 300;
        for (int seed = 0; seed < runs; seed++) {
            new LiteralModelTest(seed).runAll();
        }
        CHECK.finish();
    }

    private void runAll() {
        int nodes = random.nextInt(25);
        int transistors = random.nextInt(41);
        boolean gates = random.nextBoolean();
        int rails = random.nextInt(3) > 0 ? 2 : 0;
        for (int i = 0; i < rails; i++) {
            both.addInput();
            setValue(i, i);
        }
        for (int i = rails; i < nodes; i++) {
            addNode();
            setValue(i, random.nextInt(3));
        }
        for (int i = 0; i < transistors; i++) {
            if (gates && random.nextInt(3) > 0) {
                addGate();
            } else {
                addTransistor(node(), node(), node());
            }
        }
        while (both.calls() < CALLS_OF_AN_OBJECT - 20) {
            anyCall();
        }
        lookAround();
    }

    /** Mostly a node that exists, seldom one that does not. */
    private int node() {
        return random.nextInt(60) == 0 ? far() : random.nextInt(Math.max(1, both.nodes()));
    }

    private int transistor() {
        return random.nextInt(60) == 0 ? far() : random.nextInt(Math.max(1, both.transistors()));
    }

    private int upTo(int most) {
        return random.nextInt(60) == 0 ? far() : random.nextInt(most + 1);
    }

    private int limit() {
        switch (random.nextInt(30)) {
            case 0:
                return far();
            case 1:
                return 100;
            case 2:
                return 0;
            default:
                return 1 + random.nextInt(random.nextInt(5) == 0 ? 30 : 6);
        }
    }

    private int far() {
        return FAR[random.nextInt(FAR.length)];
    }

    private void addNode() {
        if (random.nextInt(4) == 0) {
            both.addInput();
        } else {
            both.addStorage(upTo(3));
        }
    }

    private void addTransistor(int gate, int one, int other) {
        int type = upTo(2);
        int strength = random.nextInt(60) == 0 ? far() : 1 + random.nextInt(3);
        both.addTransistor(type, strength, gate, one, other);
    }

    /** Both transistors of an inverter if nodes 0 and 1 are rails. */
    private void addGate() {
        int in = node();
        int out = node();
        int strength = 1 + random.nextInt(3);
        both.addTransistor(0, strength, in, out, 0);
        both.addTransistor(1, strength, in, out, 1);
    }

    private void setValue(int node, int value) {
        both.setInput(node, value);
        both.setCharge(node, value);
    }

    private void anyCall() {
        switch (random.nextInt(18)) {
            case 0:
                changeCircuit();
                break;
            case 1:
            case 2:
            case 3:
                setValue(node(), upTo(2));
                break;
            case 4:
            case 5:
                simulate();
                break;
            case 6:
                fault();
                break;
            case 7:
                saving();
                break;
            case 8:
                detection();
                break;
            default:
                askNode(node());
        }
    }

    private void changeCircuit() {
        if (random.nextInt(6) == 0) {
            addNode();
        } else {
            addTransistor(node(), node(), node());
        }
    }

    private void simulate() {
        int limit = limit();
        switch (random.nextInt(5)) {
            case 0:
                both.settle(limit);
                break;
            case 1:
                both.period(limit);
                break;
            case 2:
                both.active();
                break;
            default:
                both.step();
        }
        for (int value = 0; value <= 2; value++) {
            both.nodesWith(value);
        }
    }

    private void fault() {
        if (random.nextInt(12) == 0) {
            both.clearFaults();
            return;
        }
        both.setFault(transistor(), upTo(2));
    }

    private void saving() {
        int slot = upTo(1);
        switch (random.nextInt(5)) {
            case 0:
                both.forget();
                break;
            case 1:
            case 2:
                both.save(slot);
                break;
            default:
                both.restore(slot);
        }
    }

    private void detection() {
        int node = node();
        int limit = limit();
        if (random.nextInt(8) == 0) {
            both.detectedFaults(node, limit);
            return;
        }
        both.detects(transistor(), upTo(2), node, limit);
    }

    /** One question, so that no answer can lean on what another one has worked out. */
    private void askNode(int node) {
        switch (random.nextInt(7)) {
            case 0:
                both.value(node);
                break;
            case 1:
                both.definiteStrength(node);
                break;
            case 2:
                both.upStrength(node);
                break;
            case 3:
                both.downStrength(node);
                break;
            case 4:
                both.steadyValue(node);
                break;
            case 5:
                both.vicinity(node);
                break;
            default:
                both.switchState(transistor());
        }
    }

    private void lookAround() {
        both.nodeCount();
        both.transistorCount();
        both.inputs();
        both.active();
        both.nodesWith(upTo(2));
    }
}
