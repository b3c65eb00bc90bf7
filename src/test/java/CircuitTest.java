/** Promises 1 to 7: a new object, its nodes and its transistors. */
public final class CircuitTest {
    private static final Check CHECK = new Check();
    private static final int[] NO_NODES_OF_TWO = {-1, 2, 23, 24, 31, 32, 33, Integer.MIN_VALUE, Integer.MAX_VALUE};

    public static void main(String[] args) {
        newObject();
        objectsAreApart();
        addInput();
        addStorage();
        nodesUpToTheMost();
        addTransistor();
        addTransistorErrors();
        transistorsUpToTheMost();
        inputsOfAMixture();
        CHECK.finish();
    }

    private static void newObject() {
        SwitchLevelSimulator s = new SwitchLevelSimulator();
        CHECK.due("1 nodeCount", s.nodeCount(), 0);
        CHECK.due("1 transistorCount", s.transistorCount(), 0);
        CHECK.due("1 inputs", s.inputs(), 0);
        CHECK.due("1 nodesWith 0", s.nodesWith(0), 0);
        CHECK.due("1 nodesWith 1", s.nodesWith(1), 0);
        CHECK.due("1 nodesWith X", s.nodesWith(2), 0);
        CHECK.due("1 value", s.value(0), -1);
        CHECK.due("1 switchState", s.switchState(0), -2);
        CHECK.due("1 restore 0", s.restore(0), -9);
        CHECK.due("1 restore 1", s.restore(1), -9);
        CHECK.due("1 forget", s.forget(), 0);
        CHECK.due("1 clearFaults", s.clearFaults(), 0);
        CHECK.due("1 step", s.step(), 0);
        CHECK.due("1 settle", s.settle(1), 0);
        CHECK.due("1 active", s.active(), 0);
        CHECK.due("1 period", s.period(1), 1);
        CHECK.due("1 detects", s.detects(0, 1, 0, 1), -2);
        CHECK.due("1 detectedFaults", s.detectedFaults(0, 1), -1);
    }

    private static void objectsAreApart() {
        SwitchLevelSimulator filled = Circuits.ring();
        filled.save(0);
        SwitchLevelSimulator s = new SwitchLevelSimulator();
        CHECK.due("1 nodeCount beside another object", s.nodeCount(), 0);
        CHECK.due("1 transistorCount beside another object", s.transistorCount(), 0);
        CHECK.due("1 restore beside another object", s.restore(0), -9);
        s.addStorage(1);
        CHECK.due("1 the other object's nodes", filled.nodeCount(), 5);
    }

    private static void addInput() {
        SwitchLevelSimulator s = new SwitchLevelSimulator();
        CHECK.due("2 first", s.addInput(), 0);
        CHECK.due("2 value", s.value(0), 2);
        CHECK.due("2 second", s.addInput(), 1);
        CHECK.due("2 behind a storage node", s.addStorage(1) + s.addInput(), 5);
        CHECK.due("2 it is an input node", s.inputs(), 0b1011);
        CHECK.due("2 its value", s.value(3), 2);
        CHECK.due("2 its strength", s.definiteStrength(3), 7);
        CHECK.due("2 nodeCount", s.nodeCount(), 4);
    }

    private static void addStorage() {
        SwitchLevelSimulator s = new SwitchLevelSimulator();
        for (int size : new int[] {0, -1, 4, 7, Integer.MIN_VALUE, Integer.MAX_VALUE}) {
            CHECK.due("3 size " + size, s.addStorage(size), -3);
        }
        CHECK.due("3 a refused size adds nothing", s.nodeCount(), 0);
        for (int size = 1; size <= 3; size++) {
            CHECK.due("3 number", s.addStorage(size), size - 1);
            CHECK.due("3 value", s.value(size - 1), 2);
            CHECK.due("3 its size is its source strength", s.definiteStrength(size - 1), size);
        }
        CHECK.due("3 no input nodes", s.inputs(), 0);
        CHECK.due("3 nodeCount", s.nodeCount(), 3);
    }

    private static void nodesUpToTheMost() {
        SwitchLevelSimulator s = new SwitchLevelSimulator();
        for (int node = 0; node < 24; node++) {
            CHECK.due("2, 3 number", node % 2 == 0 ? s.addInput() : s.addStorage(node % 3 + 1), node);
            CHECK.due("5 nodeCount", s.nodeCount(), node + 1);
        }
        CHECK.due("2 full", s.addInput(), -6);
        CHECK.due("3 full", s.addStorage(3), -6);
        CHECK.due("3 the size is looked at before full", s.addStorage(4), -3);
        CHECK.due("5 nodeCount at the most", s.nodeCount(), 24);
        CHECK.due("7 inputs", s.inputs(), 0b010101010101010101010101);
        CHECK.due("12 all are X", s.nodesWith(2), 0xFFFFFF);
        CHECK.due("11 the last node", s.value(23), 2);
        CHECK.due("11 behind the last node", s.value(24), -1);
        CHECK.due("4 the last nodes as ends", s.addTransistor(0, 1, 23, 22, 21), 0);
    }

    private static void addTransistor() {
        SwitchLevelSimulator s = Circuits.rails();
        int a = Circuits.storage(s, 1, 0);
        CHECK.due("4 first", s.addTransistor(Circuits.D, 1, a, a, Circuits.POWER), 0);
        CHECK.due("4 no value changes", s.value(a), 0);
        CHECK.due("4 without a fault", s.setFault(0, 0), 0);
        CHECK.due("14 strength 1", s.definiteStrength(a), 4);
        CHECK.due("4 second, with the ends turned round", s.addTransistor(Circuits.D, 2, 0, 1, a), 1);
        CHECK.due("14 strength 2", s.definiteStrength(a), 5);
        CHECK.due("4 third", s.addTransistor(Circuits.D, 3, 0, a, 1), 2);
        CHECK.due("14 strength 3", s.definiteStrength(a), 6);
        CHECK.due("4 N, its gate is an end", s.addTransistor(Circuits.N, 1, a, a, 0), 3);
        CHECK.due("4 P, its gate is the other end", s.addTransistor(Circuits.P, 1, a, 0, a), 4);
        CHECK.due("4 between two inputs", s.addTransistor(Circuits.D, 1, a, 0, 1), 5);
        CHECK.due("13 N with gate 0", s.switchState(3), 0);
        CHECK.due("13 P with gate 0", s.switchState(4), 1);
        CHECK.due("6 transistorCount", s.transistorCount(), 6);
        CHECK.due("4 still no value changes", s.value(a), 0);
    }

    private static void addTransistorErrors() {
        SwitchLevelSimulator s = Circuits.rails();
        for (int node : NO_NODES_OF_TWO) {
            CHECK.due("4 gate " + node, s.addTransistor(0, 1, node, 0, 1), -1);
            CHECK.due("4 one " + node, s.addTransistor(0, 1, 0, node, 1), -1);
            CHECK.due("4 other " + node, s.addTransistor(0, 1, 0, 1, node), -1);
            CHECK.due("4 no node before the same node", s.addTransistor(9, 9, 0, node, node), -1);
            CHECK.due("4 no gate before the same node", s.addTransistor(9, 9, node, 1, 1), -1);
            CHECK.due("4 no node before a wrong type", s.addTransistor(3, 1, node, 0, 1), -1);
        }
        CHECK.due("4 the same node", s.addTransistor(0, 1, 0, 1, 1), -4);
        CHECK.due("4 the same node before a wrong type", s.addTransistor(3, 1, 0, 1, 1), -4);
        CHECK.due("4 the same node before a wrong strength", s.addTransistor(0, 4, 0, 1, 1), -4);
        for (int wrong : new int[] {-1, 4, Integer.MIN_VALUE, Integer.MAX_VALUE}) {
            CHECK.due("4 type " + wrong, s.addTransistor(wrong, 1, 0, 0, 1), -3);
            CHECK.due("4 strength " + wrong, s.addTransistor(0, wrong, 0, 0, 1), -3);
        }
        CHECK.due("4 type 3", s.addTransistor(3, 1, 0, 0, 1), -3);
        CHECK.due("4 strength 0", s.addTransistor(0, 0, 0, 0, 1), -3);
        CHECK.due("6 a refused transistor adds nothing", s.transistorCount(), 0);
    }

    private static void transistorsUpToTheMost() {
        SwitchLevelSimulator s = Circuits.rails();
        for (int transistor = 0; transistor < 40; transistor++) {
            CHECK.due("4 number", s.addTransistor(transistor % 3, transistor % 2 + 1, 0, 0, 1), transistor);
            CHECK.due("6 transistorCount", s.transistorCount(), transistor + 1);
        }
        CHECK.due("4 full", s.addTransistor(0, 1, 0, 0, 1), -6);
        CHECK.due("4 no node before full", s.addTransistor(0, 1, 0, 0, 2), -1);
        CHECK.due("4 the same node before full", s.addTransistor(0, 1, 0, 0, 0), -4);
        CHECK.due("4 a wrong type before full", s.addTransistor(3, 1, 0, 0, 1), -3);
        CHECK.due("4 a wrong strength before full", s.addTransistor(0, 0, 0, 0, 1), -3);
        CHECK.due("6 transistorCount at the most", s.transistorCount(), 40);
        CHECK.due("13 the last transistor", s.switchState(39), 0);
        CHECK.due("13 behind the last transistor", s.switchState(40), -2);
    }

    private static void inputsOfAMixture() {
        SwitchLevelSimulator s = new SwitchLevelSimulator();
        s.addStorage(1);
        CHECK.due("7 none", s.inputs(), 0);
        s.addInput();
        s.addStorage(2);
        s.addInput();
        CHECK.due("7 nodes 1 and 3", s.inputs(), 0b1010);
        s.setInput(1, 0);
        s.setCharge(0, 1);
        CHECK.due("7 whatever their values", s.inputs(), 0b1010);
    }
}
