/** Promises 14 to 18, sentence by sentence. */
final class SteadySentences extends SentenceGroup {
    private static final int[] NO_NODES_OF_24 = {-1, 24, 32, LEAST, MOST};

    SteadySentences(Sentences sentences) {
        super(sentences, 14);
    }

    @Override
    void runAll() {
        definiteStrength();
        upStrength();
        downStrength();
        steadyValue();
        vicinity();
    }

    /** Rails, an input node with X, and storage nodes in a row behind power; the transistors become weaker. */
    private static SwitchLevelSimulator row() {
        SwitchLevelSimulator s = Circuits.rails();
        s.addInput();
        for (int node = 3; node < 24; node++) {
            Circuits.storage(s, 1, 0);
        }
        Circuits.wire(s, 3, POWER, 3);
        Circuits.wire(s, 2, 3, 4);
        for (int node = 4; node < 23; node++) {
            Circuits.wire(s, 1, node, node + 1);
        }
        return s;
    }

    private void definiteStrength() {
        promise(14);
        say("Returns the definite strength q of a node for the current values, or NO_SUCH_NODE.");
        SwitchLevelSimulator s = row();
        due("node 0", s.definiteStrength(0), 7);
        due("node 3", s.definiteStrength(3), 6);
        due("node 4", s.definiteStrength(4), 5);
        due("node 23", s.definiteStrength(23), 4);
        for (int node : NO_NODES_OF_24) {
            due("node " + node, s.definiteStrength(node), NO_SUCH_NODE);
        }
        due("without nodes", new SwitchLevelSimulator().definiteStrength(0), NO_SUCH_NODE);
        due("just behind the last", Circuits.rails().definiteStrength(2), NO_SUCH_NODE);
        s = Circuits.row(1);
        due("gate 0", s.definiteStrength(3), 5);
        s.setInput(2, X);
        due("gate X", s.definiteStrength(3), 1);
        due("nothing changes", s.nodesWith(X), 0b1100);
    }

    private void upStrength() {
        promise(15);
        say("Returns the up strength u of a node for the current values, or NO_SUCH_NODE.");
        SwitchLevelSimulator s = row();
        due("node 0", s.upStrength(0), 0);
        due("node 2", s.upStrength(2), 7);
        due("node 3", s.upStrength(3), 6);
        due("node 23", s.upStrength(23), 4);
        s.setInput(POWER, 0);
        due("node 23", s.upStrength(23), 0);
        for (int node : NO_NODES_OF_24) {
            due("node " + node, s.upStrength(node), NO_SUCH_NODE);
        }
        due("without nodes", new SwitchLevelSimulator().upStrength(0), NO_SUCH_NODE);
        due("just behind the last", Circuits.rails().upStrength(2), NO_SUCH_NODE);
        due("nothing changes", s.nodesWith(0), 0xFFFFFB);
    }

    private void downStrength() {
        promise(16);
        say("Returns the down strength d of a node for the current values, or NO_SUCH_NODE.");
        SwitchLevelSimulator s = row();
        due("node 0", s.downStrength(0), 7);
        due("node 2", s.downStrength(2), 7);
        due("node 3", s.downStrength(3), 0);
        due("node 23", s.downStrength(23), 0);
        s.setInput(POWER, X);
        due("node 23", s.downStrength(23), 4);
        for (int node : NO_NODES_OF_24) {
            due("node " + node, s.downStrength(node), NO_SUCH_NODE);
        }
        due("without nodes", new SwitchLevelSimulator().downStrength(0), NO_SUCH_NODE);
        due("just behind the last", Circuits.rails().downStrength(2), NO_SUCH_NODE);
        due("nothing changes", s.nodesWith(0), 0xFFFFF9);
    }

    private void steadyValue() {
        promise(17);
        say("Returns the steady value of a node for the current values, or NO_SUCH_NODE");
        SwitchLevelSimulator s = row();
        int[] before = picture(s);
        for (int node = 0; node < 24; node++) {
            due("node " + node, s.steadyValue(node), node == 0 ? 0 : node == 2 ? X : 1);
        }
        for (int node : NO_NODES_OF_24) {
            due("node " + node, s.steadyValue(node), NO_SUCH_NODE);
        }
        due("without nodes", new SwitchLevelSimulator().steadyValue(0), NO_SUCH_NODE);
        due("just behind the last", Circuits.rails().steadyValue(2), NO_SUCH_NODE);

        say("nothing changes.");
        same("values and faults", picture(s), before);
        SwitchLevelSimulator two = Circuits.row(2);
        due("the first inverter", two.steadyValue(3), 1);
        due("the second one still sees X", two.steadyValue(4), X);
    }

    private void vicinity() {
        promise(18);
        say("Returns the vicinity of a node, or NO_SUCH_NODE.");
        SwitchLevelSimulator s = row();
        due("the whole row", s.vicinity(3), 0xFFFFF8);
        due("the whole row", s.vicinity(23), 0xFFFFF8);
        due("node 1", s.vicinity(1), 0);
        due("node 2", s.vicinity(2), 0);
        s.setFault(10, STUCK_OPEN);
        due("before the break", s.vicinity(3), 0x001FF8);
        due("behind the break", s.vicinity(23), 0xFFE000);
        for (int node : NO_NODES_OF_24) {
            due("node " + node, s.vicinity(node), NO_SUCH_NODE);
        }
        due("without nodes", new SwitchLevelSimulator().vicinity(0), NO_SUCH_NODE);
        due("just behind the last", Circuits.rails().vicinity(2), NO_SUCH_NODE);
    }
}
