/** Small circuits that several tests begin with. */
final class Circuits {
    static final int N = SwitchLevelSimulator.N, P = SwitchLevelSimulator.P, D = SwitchLevelSimulator.D;
    static final int X = SwitchLevelSimulator.X;
    static final int GROUND = 0, POWER = 1;

    private Circuits() {
    }

    /** Node 0 is ground, an input with the value 0; node 1 is power, an input with the value 1. */
    static SwitchLevelSimulator rails() {
        SwitchLevelSimulator s = new SwitchLevelSimulator();
        s.addInput();
        s.addInput();
        s.setInput(GROUND, 0);
        s.setInput(POWER, 1);
        return s;
    }

    static int input(SwitchLevelSimulator s, int value) {
        int node = s.addInput();
        s.setInput(node, value);
        return node;
    }

    static int storage(SwitchLevelSimulator s, int size, int value) {
        int node = s.addStorage(size);
        s.setCharge(node, value);
        return node;
    }

    /** Two transistors of the same strength: the N one goes to ground, the P one to power. */
    static void inverter(SwitchLevelSimulator s, int strength, int in, int out) {
        s.addTransistor(N, strength, in, out, GROUND);
        s.addTransistor(P, strength, in, out, POWER);
    }

    /** Joins two nodes by a transistor that is always CLOSED. */
    static int wire(SwitchLevelSimulator s, int strength, int one, int other) {
        return s.addTransistor(D, strength, one, one, other);
    }

    /** Rails, and three inverters in a ring of nodes 2, 3 and 4, in a state from which it swings. */
    static SwitchLevelSimulator ring() {
        SwitchLevelSimulator s = rails();
        storage(s, 1, 0);
        storage(s, 1, 1);
        storage(s, 1, 0);
        inverter(s, 2, 4, 2);
        inverter(s, 2, 2, 3);
        inverter(s, 2, 3, 4);
        return s;
    }

    /** Rails, an input node 2 with the value 0, and inverters in a row whose outputs are nodes 3, 4, ... */
    static SwitchLevelSimulator row(int inverters) {
        SwitchLevelSimulator s = rails();
        input(s, 0);
        for (int i = 0; i < inverters; i++) {
            int out = s.addStorage(1);
            inverter(s, 2, out - 1, out);
        }
        return s;
    }
}
