/** Promises 8 to 13, sentence by sentence. */
final class ValueSentences extends SentenceGroup {
    private static final int[] WRONG_VALUES = {-1, 3, LEAST, MOST};
    private static final int[] NO_NODES_OF_24 = {-1, 24, 32, LEAST, MOST};

    ValueSentences(Sentences sentences) {
        super(sentences, 8);
    }

    @Override
    void runAll() {
        setInput();
        setCharge();
        forget();
        value();
        nodesWith();
        switchState();
    }

    /** Nodes 0 and 23 are input nodes, those between them storage nodes, and all are joined. */
    private static SwitchLevelSimulator joined() {
        SwitchLevelSimulator s = new SwitchLevelSimulator();
        s.addInput();
        for (int node = 1; node < 23; node++) {
            s.addStorage(node % 3 + 1);
        }
        s.addInput();
        for (int node = 0; node < 23; node++) {
            Circuits.wire(s, 3, node, node + 1);
        }
        return s;
    }

    private void setInput() {
        promise(8);
        say("Sets the value of an input node.");
        SwitchLevelSimulator s = joined();
        for (int value = 0; value <= X; value++) {
            s.setInput(0, value);
            s.setInput(23, value);
            due("node 0", s.value(0), value);
            due("node 23", s.value(23), value);
        }

        say("No other value changes.");
        s.setInput(0, 1);
        s.setInput(23, 0);
        same("only nodes 0 and 23", values(s), new int[] {1 << 23, 1, 0x7FFFFE});

        say("`value`: 0, 1 or X");
        for (int value = 0; value <= X; value++) {
            s.setInput(0, value);
            due("value " + value, s.nodesWith(value) & 1, 1);
        }

        say("Returns its previous value");
        int previous = X;
        for (int value : new int[] {X, 0, 0, 1, 1, X, 1, 0, X}) {
            due("before " + value, s.setInput(0, value), previous);
            previous = value;
        }

        say("NO_SUCH_NODE if the node does not exist (checked first)");
        due("without nodes", new SwitchLevelSimulator().setInput(0, 0), NO_SUCH_NODE);
        for (int node : NO_NODES_OF_24) {
            due("node " + node, s.setInput(node, 1), NO_SUCH_NODE);
            due("node " + node + " and a wrong value", s.setInput(node, 3), NO_SUCH_NODE);
        }

        say("WRONG_NODE if it is a storage node (checked second)");
        for (int node : new int[] {1, 22}) {
            due("node " + node, s.setInput(node, 1), WRONG_NODE);
            for (int value : WRONG_VALUES) {
                due("node " + node + " and the value " + value, s.setInput(node, value), WRONG_NODE);
            }
        }

        say("OUT_OF_RANGE if value is out of range.");
        for (int value : WRONG_VALUES) {
            due("value " + value, s.setInput(0, value), OUT_OF_RANGE);
        }
        due("the value stays", s.value(0), X);
    }

    private void setCharge() {
        promise(9);
        say("Sets the value of a storage node.");
        SwitchLevelSimulator s = joined();
        for (int value = 0; value <= X; value++) {
            s.setCharge(1, value);
            s.setCharge(22, value);
            due("node 1", s.value(1), value);
            due("node 22", s.value(22), value);
        }

        say("No other value changes.");
        s.setCharge(1, 1);
        s.setCharge(22, 0);
        same("only nodes 1 and 22", values(s), new int[] {1 << 22, 1 << 1, 0xBFFFFD});

        say("`value`: 0, 1 or X");
        for (int value = 0; value <= X; value++) {
            s.setCharge(1, value);
            due("value " + value, s.nodesWith(value) & 2, 2);
        }

        say("Returns its previous value");
        int previous = X;
        for (int value : new int[] {X, 0, 0, 1, 1, X, 1, 0, X}) {
            due("before " + value, s.setCharge(1, value), previous);
            previous = value;
        }

        say("NO_SUCH_NODE if the node does not exist (checked first)");
        due("without nodes", new SwitchLevelSimulator().setCharge(0, 0), NO_SUCH_NODE);
        for (int node : NO_NODES_OF_24) {
            due("node " + node, s.setCharge(node, 1), NO_SUCH_NODE);
            due("node " + node + " and a wrong value", s.setCharge(node, 3), NO_SUCH_NODE);
        }

        say("WRONG_NODE if it is an input node (checked second)");
        for (int node : new int[] {0, 23}) {
            due("node " + node, s.setCharge(node, 1), WRONG_NODE);
            for (int value : WRONG_VALUES) {
                due("node " + node + " and the value " + value, s.setCharge(node, value), WRONG_NODE);
            }
        }

        say("OUT_OF_RANGE if value is out of range.");
        for (int value : WRONG_VALUES) {
            due("value " + value, s.setCharge(1, value), OUT_OF_RANGE);
        }
        due("the value stays", s.value(1), X);
    }

    private void forget() {
        promise(10);
        say("Sets the values of all storage nodes to X");
        SwitchLevelSimulator s = joined();
        s.setInput(0, 0);
        s.setInput(23, 1);
        for (int node = 1; node < 23; node++) {
            s.setCharge(node, node % 2);
        }
        int count = s.forget();
        same("storage nodes alone", values(s), new int[] {1, 1 << 23, 0x7FFFFE});

        say("returns how many of them had another value.");
        due("all 22", count, 22);
        due("none", s.forget(), 0);
        s.setCharge(1, 0);
        s.setCharge(22, 1);
        s.setCharge(7, X);
        due("one with 0, one with 1", s.forget(), 2);
        due("without nodes", new SwitchLevelSimulator().forget(), 0);
        due("with input nodes alone", Circuits.rails().forget(), 0);
    }

    private void value() {
        promise(11);
        say("Returns the value of a node, or NO_SUCH_NODE.");
        SwitchLevelSimulator s = joined();
        s.setInput(0, 1);
        s.setCharge(1, 0);
        due("node 0", s.value(0), 1);
        due("node 1", s.value(1), 0);
        due("node 23", s.value(23), X);
        due("without nodes", new SwitchLevelSimulator().value(0), NO_SUCH_NODE);
        due("just behind the last", Circuits.rails().value(2), NO_SUCH_NODE);
        for (int node : NO_NODES_OF_24) {
            due("node " + node, s.value(node), NO_SUCH_NODE);
        }
    }

    private void nodesWith() {
        promise(12);
        say("Returns the set of nodes that have a value.");
        SwitchLevelSimulator s = joined();
        s.setInput(0, 1);
        s.setCharge(1, 0);
        s.setCharge(2, 0);
        s.setInput(23, 1);
        due("0", s.nodesWith(0), 0b110);
        due("1", s.nodesWith(1), 1 << 23 | 1);
        due("X", s.nodesWith(X), 0x7FFFF8);

        say("`value`: 0, 1 or X");
        due("each node has one", s.nodesWith(0) ^ s.nodesWith(1) ^ s.nodesWith(2), 0xFFFFFF);

        say("Returns the set");
        same("of no nodes", values(new SwitchLevelSimulator()), new int[] {0, 0, 0});
        due("of all nodes", joined().nodesWith(X), 0xFFFFFF);

        say("OUT_OF_RANGE if value is out of range.");
        for (int value : WRONG_VALUES) {
            due("value " + value, s.nodesWith(value), OUT_OF_RANGE);
            due("value " + value + " without nodes", new SwitchLevelSimulator().nodesWith(value), OUT_OF_RANGE);
        }
    }

    private void switchState() {
        promise(13);
        say("Returns the state of a transistor (OPEN, CLOSED or UNKNOWN), or NO_SUCH_TRANSISTOR.");
        SwitchLevelSimulator s = Circuits.rails();
        int unknown = s.addInput();
        due("without transistors", s.switchState(0), NO_SUCH_TRANSISTOR);
        for (int transistor = 0; transistor < 40; transistor++) {
            s.addTransistor(transistor / 3 % 3, 1, transistor % 3, 0, 1);
            due("just behind the last", s.switchState(transistor + 1), NO_SUCH_TRANSISTOR);
        }
        int[] byGateAndType = {OPEN, CLOSED, UNKNOWN, CLOSED, OPEN, UNKNOWN, CLOSED, CLOSED, CLOSED};
        for (int transistor = 0; transistor < 40; transistor++) {
            due("transistor " + transistor, s.switchState(transistor), byGateAndType[transistor % 9]);
        }
        for (int transistor : new int[] {-1, 40, 64, LEAST, MOST}) {
            due("transistor " + transistor, s.switchState(transistor), NO_SUCH_TRANSISTOR);
        }
        s.setInput(unknown, 1);
        due("the gate's value now", s.switchState(2), CLOSED);
        s.setFault(2, STUCK_OPEN);
        due("its fault now", s.switchState(2), OPEN);
    }
}
