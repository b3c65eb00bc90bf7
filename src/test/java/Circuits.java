/** Small circuits that several tests begin with. */
final class Circuits {
    static final int N = SwitchLevelSimulator.N, P = SwitchLevelSimulator.P, D = SwitchLevelSimulator.D;
    static final int X = SwitchLevelSimulator.X;
    static final int GROUND = 0, POWER = 1;

    private Circuits() {
    }

    /** Node 0 is ground, an input with the value 0; node 1 is power, an input with the value 1. */
    static SwitchLevelSimulator rails() {
        SwitchLevelSimulator s = new SwitchLevelSimulator();
        s.addInput();
        s.addInput();
        s.setInput(GROUND, 0);
        s.setInput(POWER, 1);
        return s;
    }

    static int input(SwitchLevelSimulator s, int value) {
        int node = s.addInput();
        s.setInput(node, value);
        return node;
    }

    static int storage(SwitchLevelSimulator s, int size, int value) {
        int node = s.addStorage(size);
        s.setCharge(node, value);
        return node;
    }

    /** Two transistors of the same strength: the N one goes to ground, the P one to power. */
    static void inverter(SwitchLevelSimulator s, int strength, int in, int out) {
        s.addTransistor(N, strength, in, out, GROUND);
        s.addTransistor(P, strength, in, out, POWER);
    }

    /** Joins two nodes by a transistor that is always CLOSED. */
    static int wire(SwitchLevelSimulator s, int strength, int one, int other) {
        return s.addTransistor(D, strength, one, one, other);
    }

    /** Rails, and three inverters in a ring of nodes 2, 3 and 4, in a state from which it swings. */
    static SwitchLevelSimulator ring() {
        SwitchLevelSimulator s = rails();
        storage(s, 1, 0);
        storage(s, 1, 1);
        storage(s, 1, 0);
        inverter(s, 2, 4, 2);
        inverter(s, 2, 2, 3);
        inverter(s, 2, 3, 4);
        return s;
    }

    /** Rails, an input node 2 with the value 0, and inverters in a row whose outputs are nodes 3, 4, ... */
    static SwitchLevelSimulator row(int inverters) {
        SwitchLevelSimulator s = rails();
        input(s, 0);
        for (int i = 0; i < inverters; i++) {
            int out = s.addStorage(1);
            inverter(s, 2, out - 1, out);
        }
        return s;
    }

    /**
     * Rails, and from node 2 on one NOR gate a row: its inputs are the gates in the set, and its value at
     * the start is the bit in start. A transistor that is always CLOSED pulls up, stronger ones pull down.
     */
    static SwitchLevelSimulator norGates(int[] inputs, int start) {
        SwitchLevelSimulator s = rails();
        for (int gate = 0; gate < inputs.length; gate++) {
            storage(s, 1, start >> gate & 1);
        }
        for (int gate = 0; gate < inputs.length; gate++) {
            addNor(s, inputs[gate], 2 + gate);
        }
        return s;
    }

    private static void addNor(SwitchLevelSimulator s, int inputs, int out) {
        wire(s, 1, out, POWER);
        for (int gate = 0; gate < 24; gate++) {
            if ((inputs >> gate & 1) != 0) {
                s.addTransistor(N, 2, 2 + gate, out, GROUND);
            }
        }
    }

    /** Twenty nodes and 37 transistors that come to rest with the 101st step. */
    static SwitchLevelSimulator restingAfter101Steps() {
        int[] inputs = new int[18];
        for (int gate = 0; gate < 18; gate++) {
            inputs[gate] = 1 << (gate + 17) % 18;
        }
        inputs[14] |= 1 << 9;
        return norGates(inputs, 0x4dc4);
    }

    /** Gates that are as now again after 25 steps, beside a ring of four that is so after four. */
    static SwitchLevelSimulator swingingBy100Steps() {
        int[] inputs = {0x1001, 0x801, 0x402, 0x4, 0x8, 0x10, 0x20, 0x40, 0x80, 0x100, 0x200, 0x400, 0x840,
            1 << 16, 1 << 13, 1 << 14, 1 << 15};
        return norGates(inputs, 0xd85 | 0b0010 << 13);
    }

    /** A ring of 5 and a ring of 11 inverters, as now again after 10 and after 22 steps. */
    static SwitchLevelSimulator swingingBy110Steps() {
        int[] inputs = new int[16];
        for (int gate = 0; gate < 16; gate++) {
            inputs[gate] = 1 << (gate == 0 ? 4 : gate == 5 ? 15 : gate - 1);
        }
        return norGates(inputs, 0b00101 | 0b00101010101 << 5);
    }
}
