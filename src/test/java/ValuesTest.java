/** Promises 8 to 13: values of nodes and states of switches. */
public final class ValuesTest {
    private static final Check CHECK = new Check();
    private static final int[] WRONG_VALUES = {-1, 3, Integer.MIN_VALUE, Integer.MAX_VALUE};
    private static final int[] WRONG_NODES = {-1, -32, 2, 24, 32, 33, Integer.MIN_VALUE, Integer.MAX_VALUE};

    public static void main(String[] args) {
        setInput();
        setCharge();
        forget();
        value();
        nodesWith();
        switchStateByGate();
        switchStateByFault();
        switchStateErrors();
        CHECK.finish();
    }

    /** Node 0 is an input node, node 1 a storage node. */
    private static SwitchLevelSimulator pair() {
        SwitchLevelSimulator s = new SwitchLevelSimulator();
        s.addInput();
        s.addStorage(2);
        return s;
    }

    private static void setInput() {
        SwitchLevelSimulator s = pair();
        Circuits.wire(s, 3, 0, 1);
        int previous = 2;
        for (int value : new int[] {0, 0, 1, 1, 2, 2, 1, 0, 2, 0}) {
            CHECK.due("8 previous value", s.setInput(0, value), previous);
            CHECK.due("8 value", s.value(0), value);
            CHECK.due("8 no other value changes", s.value(1), 2);
            previous = value;
        }
        for (int node : WRONG_NODES) {
            CHECK.due("8 node " + node, s.setInput(node, 9), -1);
        }
        for (int value : WRONG_VALUES) {
            CHECK.due("8 a storage node before value " + value, s.setInput(1, value), -5);
            CHECK.due("8 value " + value, s.setInput(0, value), -3);
        }
        CHECK.due("8 a storage node", s.setInput(1, 1), -5);
        CHECK.due("8 errors change nothing", s.nodesWith(0), 0b01);
        CHECK.due("8 errors change nothing", s.nodesWith(2), 0b10);
    }

    private static void setCharge() {
        SwitchLevelSimulator s = pair();
        Circuits.wire(s, 3, 0, 1);
        int previous = 2;
        for (int value : new int[] {0, 0, 1, 1, 2, 2, 1, 0, 2, 1}) {
            CHECK.due("9 previous value", s.setCharge(1, value), previous);
            CHECK.due("9 value", s.value(1), value);
            CHECK.due("9 no other value changes", s.value(0), 2);
            previous = value;
        }
        for (int node : WRONG_NODES) {
            CHECK.due("9 node " + node, s.setCharge(node, 9), -1);
        }
        for (int value : WRONG_VALUES) {
            CHECK.due("9 an input node before value " + value, s.setCharge(0, value), -5);
            CHECK.due("9 value " + value, s.setCharge(1, value), -3);
        }
        CHECK.due("9 an input node", s.setCharge(0, 1), -5);
        CHECK.due("9 errors change nothing", s.nodesWith(1), 0b10);
        CHECK.due("9 errors change nothing", s.nodesWith(2), 0b01);
    }

    private static void forget() {
        SwitchLevelSimulator s = Circuits.rails();
        Circuits.storage(s, 1, 0);
        Circuits.storage(s, 2, 1);
        Circuits.storage(s, 3, 2);
        Circuits.storage(s, 1, 1);
        CHECK.due("10 three had another value", s.forget(), 3);
        CHECK.due("10 the storage nodes are X", s.nodesWith(2), 0b111100);
        CHECK.due("10 inputs stay", s.nodesWith(0), 0b01);
        CHECK.due("10 inputs stay", s.nodesWith(1), 0b10);
        CHECK.due("10 none has another value now", s.forget(), 0);
        s.setInput(0, 2);
        s.setCharge(4, 0);
        CHECK.due("10 input nodes are not counted", s.forget(), 1);
    }

    private static void value() {
        SwitchLevelSimulator s = Circuits.rails();
        CHECK.due("11 a value 0", s.value(0), 0);
        CHECK.due("11 a value 1", s.value(1), 1);
        for (int node : WRONG_NODES) {
            CHECK.due("11 node " + node, s.value(node), -1);
        }
        s.addStorage(1);
        CHECK.due("11 a value X", s.value(2), 2);
    }

    private static void nodesWith() {
        SwitchLevelSimulator s = Circuits.rails();
        Circuits.storage(s, 1, 1);
        Circuits.storage(s, 1, 0);
        Circuits.storage(s, 1, 2);
        CHECK.due("12 0", s.nodesWith(0), 0b01001);
        CHECK.due("12 1", s.nodesWith(1), 0b00110);
        CHECK.due("12 X", s.nodesWith(2), 0b10000);
        for (int value : WRONG_VALUES) {
            CHECK.due("12 value " + value, s.nodesWith(value), -3);
        }
    }

    private static void switchStateByGate() {
        SwitchLevelSimulator s = new SwitchLevelSimulator();
        s.addInput();
        s.addInput();
        int gate = s.addStorage(1);
        for (int type = 0; type <= 2; type++) {
            s.addTransistor(type, 1, gate, 0, 1);
        }
        int[][] due = {{0, 1, 1}, {1, 0, 1}, {2, 2, 1}};
        for (int value = 0; value <= 2; value++) {
            s.setCharge(gate, value);
            for (int type = 0; type <= 2; type++) {
                CHECK.due("13 type " + type + " with gate " + value, s.switchState(type), due[value][type]);
            }
        }
    }

    private static void switchStateByFault() {
        SwitchLevelSimulator s = new SwitchLevelSimulator();
        s.addInput();
        s.addInput();
        for (int type = 0; type <= 2; type++) {
            s.addTransistor(type, 1, 0, 0, 1);
        }
        for (int value = 0; value <= 2; value++) {
            s.setInput(0, value);
            for (int type = 0; type <= 2; type++) {
                s.setFault(type, 1);
                CHECK.due("13 stuck open", s.switchState(type), 0);
                s.setFault(type, 2);
                CHECK.due("13 stuck closed", s.switchState(type), 1);
            }
        }
    }

    private static void switchStateErrors() {
        SwitchLevelSimulator s = Circuits.rails();
        Circuits.wire(s, 1, 0, 1);
        for (int transistor : new int[] {-1, 1, 39, 40, 64, Integer.MIN_VALUE, Integer.MAX_VALUE}) {
            CHECK.due("13 transistor " + transistor, s.switchState(transistor), -2);
        }
        CHECK.due("13 transistor 0", s.switchState(0), 1);
    }
}
