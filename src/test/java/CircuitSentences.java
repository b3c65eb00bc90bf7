/** Promises 1 to 7, sentence by sentence. */
final class CircuitSentences extends SentenceGroup {
    CircuitSentences(Sentences sentences) {
        super(sentences, 1);
    }

    @Override
    void runAll() {
        newObject();
        addInput();
        addStorage();
        addTransistor();
        addTransistorErrors();
        counts();
        inputs();
    }

    /** Input and storage nodes by turns, as many as asked for. */
    private static SwitchLevelSimulator nodes(int total) {
        SwitchLevelSimulator s = new SwitchLevelSimulator();
        for (int node = 0; node < total; node++) {
            if (node % 2 == 0) {
                s.addInput();
            } else {
                s.addStorage(1);
            }
        }
        return s;
    }

    private void newObject() {
        promise(1);
        say("No nodes, no transistors, nothing saved.");
        SwitchLevelSimulator s = new SwitchLevelSimulator();
        due("nodes", s.nodeCount(), 0);
        due("node 0", s.value(0), NO_SUCH_NODE);
        due("inputs", s.inputs(), 0);
        same("values", values(s), new int[] {0, 0, 0});
        due("transistors", s.transistorCount(), 0);
        due("transistor 0", s.switchState(0), NO_SUCH_TRANSISTOR);
        due("slot 0", s.restore(0), NOT_SAVED);
        due("slot 1", s.restore(1), NOT_SAVED);
        due("forget", s.forget(), 0);
        due("step", s.step(), 0);
        due("settle", s.settle(1), 0);
        due("active", s.active(), 0);
        due("period", s.period(1), 1);
        due("clearFaults", s.clearFaults(), 0);
        due("detects", s.detects(0, 1, 0, 1), NO_SUCH_TRANSISTOR);
        due("detectedFaults", s.detectedFaults(0, 1), NO_SUCH_NODE);
        due("save", s.save(0), 0);
    }

    private void addInput() {
        promise(2);
        say("Adds an input node with the value X; returns its number");
        SwitchLevelSimulator s = new SwitchLevelSimulator();
        due("the first", s.addInput(), 0);
        due("is an input node", s.inputs(), 0b1);
        due("its value", s.value(0), X);
        s.addStorage(1);
        due("behind a storage node", s.addInput(), 2);
        due("is an input node", s.inputs(), 0b101);
        due("its value", s.value(2), X);
        s = nodes(23);
        due("the 24th", s.addInput(), 23);
        due("its value", s.value(23), X);

        say("or FULL if there are 24 nodes.");
        due("the 25th", s.addInput(), FULL);
        due("and again", s.addInput(), FULL);
        due("nodes", s.nodeCount(), 24);
        s = new SwitchLevelSimulator();
        for (int node = 0; node < 24; node++) {
            due("input nodes alone", s.addInput(), node);
        }
        due("input nodes alone", s.addInput(), FULL);
    }

    private void addStorage() {
        promise(3);
        say("Adds a storage node with the value X.");
        SwitchLevelSimulator s = new SwitchLevelSimulator();
        s.addStorage(2);
        due("no input node", s.inputs(), 0);
        due("its value", s.value(0), X);

        say("`size`: 1 to 3");
        for (int size = 1; size <= 3; size++) {
            due("size " + size, s.addStorage(size), size);
            due("size " + size, s.definiteStrength(size), size);
        }

        say("Returns its number");
        due("behind four", s.addStorage(1), 4);
        s = nodes(23);
        due("the 24th", s.addStorage(3), 23);
        due("its size", s.definiteStrength(23), 3);

        say("OUT_OF_RANGE if size is out of range (checked first)");
        for (int size : new int[] {0, 4, -1, 5, 7, LEAST, MOST}) {
            due("with room, size " + size, nodes(0).addStorage(size), OUT_OF_RANGE);
            due("without room, size " + size, s.addStorage(size), OUT_OF_RANGE);
        }

        say("FULL if there are 24 nodes.");
        for (int size = 1; size <= 3; size++) {
            due("size " + size, s.addStorage(size), FULL);
        }
        due("nodes", s.nodeCount(), 24);
    }

    private void addTransistor() {
        promise(4);
        say("Adds a transistor without a fault.");
        SwitchLevelSimulator s = Circuits.rails();
        int a = Circuits.storage(s, 1, 0);
        s.save(0);
        s.addTransistor(N, 1, GROUND, a, POWER);
        due("no fault", s.setFault(0, STUCK_CLOSED), NO_FAULT);
        s.restore(0);
        s.addTransistor(N, 1, GROUND, a, POWER);
        due("no fault in the place of one with a fault", s.setFault(0, NO_FAULT), NO_FAULT);

        say("No value changes.");
        int[] before = values(s);
        s.addTransistor(D, 3, POWER, a, POWER);
        same("though a step would change it", values(s), before);
        due("though a step would change it", s.active(), 1 << a);

        say("`type`: N, P or D");
        int first = s.transistorCount();
        for (int type = N; type <= D; type++) {
            s.addTransistor(type, 1, POWER, GROUND, POWER);
        }
        same("with gate 1", new int[] {s.switchState(first), s.switchState(first + 1), s.switchState(first + 2)},
                new int[] {CLOSED, OPEN, CLOSED});

        say("`strength`: 1 to 3");
        for (int strength = 1; strength <= 3; strength++) {
            int node = Circuits.storage(s, 1, 0);
            s.addTransistor(D, strength, GROUND, node, POWER);
            due("strength " + strength, s.definiteStrength(node), strength + 3);
        }

        say("`gate`: a node (for D, too, where its value does not matter)");
        for (int gate : new int[] {-1, s.nodeCount(), LEAST, MOST}) {
            due("no gate for D", s.addTransistor(D, 1, gate, 0, 1), NO_SUCH_NODE);
        }
        int gate = s.addInput();
        int closed = s.addTransistor(D, 1, gate, 0, 1);
        for (int value = 0; value <= X; value++) {
            s.setInput(gate, value);
            due("D with gate " + value, s.switchState(closed), CLOSED);
        }

        say("`one`: one end");
        int b = Circuits.storage(s, 1, 0);
        s.addTransistor(D, 1, GROUND, b, POWER);
        due("one end", s.steadyValue(b), 1);

        say("`other`: the other end");
        int c = Circuits.storage(s, 1, 0);
        s.addTransistor(D, 1, GROUND, POWER, c);
        due("the other end", s.steadyValue(c), 1);

        say("Returns its number");
        due("the next", s.addTransistor(N, 1, 0, 1, 0), s.transistorCount() - 1);
        SwitchLevelSimulator full = transistors(39);
        due("the 40th", full.addTransistor(P, 1, 1, 0, 1), 39);
    }

    private static SwitchLevelSimulator transistors(int total) {
        SwitchLevelSimulator s = nodes(24);
        for (int transistor = 0; transistor < total; transistor++) {
            s.addTransistor(transistor % 3, transistor % 3 + 1, transistor % 24, transistor % 23, 23);
        }
        return s;
    }

    private void addTransistorErrors() {
        say("NO_SUCH_NODE if one of the three nodes does not exist (checked first)");
        due("without nodes", new SwitchLevelSimulator().addTransistor(N, 1, 0, 0, 0), NO_SUCH_NODE);
        SwitchLevelSimulator s = nodes(3);
        for (int none : new int[] {-1, 3, 23, 24, 32, 33, 34, LEAST, MOST}) {
            due("gate " + none, s.addTransistor(N, 1, none, 0, 1), NO_SUCH_NODE);
            due("one " + none, s.addTransistor(N, 1, 0, none, 1), NO_SUCH_NODE);
            due("other " + none, s.addTransistor(N, 1, 0, 1, none), NO_SUCH_NODE);
            due("both ends " + none, s.addTransistor(N, 1, 0, none, none), NO_SUCH_NODE);
            due("gate " + none + " and all the rest wrong", s.addTransistor(9, 9, none, 1, 1), NO_SUCH_NODE);
        }

        say("SAME_NODE if both ends are the same (checked second)");
        for (int node = 0; node < 3; node++) {
            due("node " + node, s.addTransistor(N, 1, 0, node, node), SAME_NODE);
            due("and a wrong type", s.addTransistor(3, 1, 0, node, node), SAME_NODE);
            due("and a wrong strength", s.addTransistor(N, 0, 0, node, node), SAME_NODE);
        }

        say("OUT_OF_RANGE if type or strength is out of range (checked third)");
        for (int type : new int[] {-1, 3, LEAST, MOST}) {
            due("type " + type, s.addTransistor(type, 1, 0, 0, 1), OUT_OF_RANGE);
        }
        for (int strength : new int[] {0, 4, -1, LEAST, MOST}) {
            due("strength " + strength, s.addTransistor(N, strength, 0, 0, 1), OUT_OF_RANGE);
        }
        SwitchLevelSimulator full = transistors(40);
        due("type, when full", full.addTransistor(3, 1, 0, 0, 1), OUT_OF_RANGE);
        due("strength, when full", full.addTransistor(N, 4, 0, 0, 1), OUT_OF_RANGE);

        say("FULL if there are 40 transistors.");
        for (int type = N; type <= D; type++) {
            due("type " + type, full.addTransistor(type, type + 1, 0, 0, 1), FULL);
        }
        due("transistors", full.transistorCount(), 40);
    }

    private void counts() {
        promise(5);
        say("Returns the number of nodes.");
        for (int total = 0; total <= 24; total++) {
            due("nodes", nodes(total).nodeCount(), total);
        }

        promise(6);
        say("Returns the number of transistors.");
        for (int total = 0; total <= 40; total++) {
            due("transistors", transistors(total).transistorCount(), total);
        }
    }

    private void inputs() {
        promise(7);
        say("Returns the set of input nodes.");
        due("without nodes", nodes(0).inputs(), 0);
        due("by turns", nodes(24).inputs(), 0x555555);
        SwitchLevelSimulator all = new SwitchLevelSimulator();
        SwitchLevelSimulator none = new SwitchLevelSimulator();
        for (int node = 0; node < 24; node++) {
            all.addInput();
            none.addStorage(1);
        }
        due("all", all.inputs(), 0xFFFFFF);
        due("none", none.inputs(), 0);
    }
}
