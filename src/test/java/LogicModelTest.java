import java.util.Random;

/**
 * Runs on circuits that are built as logic gates and begin with known values, so that much is detected
 * and much swings; in circuits built at random nearly all is X soon. The literal model says what is due.
 */
public final class LogicModelTest {
    private static final int CALLS_OF_AN_OBJECT = 512;
    private static final int N = 0, P = 1, D = 2, X = 2, UNSTABLE = -7;
    private static final Check CHECK = new Check();

    /** What the runs are made for; the test is worth nothing if they no longer reach it. */
    private static int detected, counted, longSettles, unstable, swings;

    private final Random random;
    private final SideBySide both;
    /** Without feedback a node is driven by lower nodes alone, and the circuit comes to rest. */
    private final boolean feedback;
    private int ground;
    private int power;
    private int inputs = 0;
    /** The node that the next gate drives; so each of them has one gate before any has two. */
    private int driven = 0;
    /** Under each transistor the node that its gate drives. */
    private final int[] drivenBy = new int[40];

    private LogicModelTest(int seed) {
        random = new Random(seed);
        both = new SideBySide(CHECK, "logic run " + seed);
        feedback = random.nextInt(3) == 0;
    }

    public static void main(String[] args) {
        int runs = args.length > 0 ? Integer.parseInt(args[0]) : 100;
        for (int seed = 0; seed < runs; seed++) {
            new LogicModelTest(seed).runAll();
        }
        CHECK.holds(detected + " faults are detected", detected >= runs / 2);
        CHECK.holds(counted + " counts are above 1", counted >= runs / 2);
        CHECK.holds(longSettles + " circuits settle in more than 3 steps", longSettles >= runs / 2);
        CHECK.holds(unstable + " circuits do not settle", unstable >= runs);
        CHECK.holds(swings + " circuits swing", swings >= runs / 2);
        CHECK.finish();
    }

    private void runAll() {
        addNodes(4 + random.nextInt(21));
        int gates = random.nextInt(41);
        for (int gate = 0; gate < gates; gate++) {
            addGate();
        }
        setAllInputsAndCharges();
        while (both.calls() < CALLS_OF_AN_OBJECT - 30) {
            anyCall();
        }
    }

    private void addNodes(int total) {
        ground = random.nextInt(total);
        power = (ground + 1 + random.nextInt(total - 1)) % total;
        for (int node = 0; node < total; node++) {
            if (isRail(node) || random.nextInt(8) == 0) {
                both.addInput();
                inputs |= 1 << node;
            } else {
                both.addStorage(1 + random.nextInt(3));
            }
        }
        both.setInput(ground, 0);
        both.setInput(power, 1);
    }

    private boolean isRail(int node) {
        return node == ground || node == power;
    }

    private int anyNode() {
        return random.nextInt(both.nodes());
    }

    private int anyTransistor() {
        return random.nextInt(Math.max(1, both.transistors()));
    }

    /** Mostly the node before, so that long rows and rings come about. */
    private int before(int out) {
        return random.nextInt(4) > 0 ? (out + both.nodes() - 1) % both.nodes() : anyDriving(out);
    }

    private int anyDriving(int out) {
        return feedback || out == 0 ? anyNode() : random.nextInt(out);
    }

    private void addGate() {
        int out = driven;
        driven = (driven + 1) % both.nodes();
        if ((inputs & 1 << out) != 0) {
            return;
        }
        int strength = 1 + random.nextInt(3);
        int strong = 2 + random.nextInt(2);
        switch (random.nextInt(8)) {
            case 0:
                join(D, 1, ground, out, power);
                join(N, strong, before(out), out, ground);
                join(N, strong, anyDriving(out), ground, out);
                break;
            case 1:
                join(D, 1, ground, out, ground);
                join(P, strong, before(out), out, power);
                join(P, strong, anyDriving(out), power, out);
                break;
            case 2:
                join(random.nextInt(2), strength, anyDriving(out), out, before(out));
                break;
            default:
                int in = before(out);
                join(N, strength, in, out, ground);
                join(P, strength, in, out, power);
        }
    }

    private void join(int type, int strength, int gate, int one, int other) {
        int transistor = both.addTransistor(type, strength, gate, one, other);
        if (transistor >= 0) {
            drivenBy[transistor] = isRail(one) ? other : one;
        }
    }

    private void setAllInputsAndCharges() {
        for (int node = 0; node < both.nodes(); node++) {
            setValue(node);
        }
    }

    private void setValue(int node) {
        int value = random.nextInt(40) == 0 ? X : random.nextInt(2);
        if ((inputs & 1 << node) == 0) {
            both.setCharge(node, value);
        } else if (!isRail(node)) {
            both.setInput(node, value);
        }
    }

    private int limit() {
        return 1 + random.nextInt(random.nextInt(10) == 0 ? 100 : 12);
    }

    private void anyCall() {
        switch (random.nextInt(12)) {
            case 0:
                settle();
                break;
            case 1:
                both.period(limit());
                break;
            case 2:
                both.step();
                both.nodesWith(random.nextInt(3));
                break;
            case 3:
                counted += both.detectedFaults(anyNode(), limit()) > 1 ? 1 : 0;
                break;
            case 4:
                fault();
                break;
            case 5:
                saving();
                break;
            case 6:
                askNode(anyNode());
                break;
            case 7:
            case 8:
                setValue(anyNode());
                break;
            default:
                detect(anyTransistor());
        }
    }

    /** At the node that the transistor drives, or a little behind it, where it can be seen best. */
    private void detect(int transistor) {
        int node = Math.min(drivenBy[transistor] + random.nextInt(3), both.nodes() - 1);
        detected += both.detects(transistor, 1 + random.nextInt(2), node, limit()) == 1 ? 1 : 0;
    }

    private void settle() {
        int answer = both.settle(limit());
        longSettles += answer > 3 ? 1 : 0;
        unstable += answer == UNSTABLE ? 1 : 0;
        swings += both.period(limit()) > 1 ? 1 : 0;
        for (int value = 0; value <= X; value++) {
            both.nodesWith(value);
        }
        // Else the circuit would be at rest for most of the run.
        setAllInputsAndCharges();
    }

    private void fault() {
        if (random.nextInt(3) == 0) {
            both.clearFaults();
        } else {
            both.setFault(anyTransistor(), random.nextInt(3));
        }
    }

    private void saving() {
        int slot = random.nextInt(2);
        if (random.nextBoolean()) {
            both.save(slot);
        } else {
            both.restore(slot);
        }
    }

    private void askNode(int node) {
        both.definiteStrength(node);
        both.upStrength(node);
        both.downStrength(node);
        both.steadyValue(node);
        both.vicinity(node);
        both.switchState(anyTransistor());
        both.active();
    }
}
