/** The Description without its steady state: errors, sets, CIRCUIT, SWITCH STATES, STEPS and VICINITIES. */
final class DescriptionSentences extends SentenceGroup {
    private interface Call {
        int on(SwitchLevelSimulator s);
    }

    DescriptionSentences(Sentences sentences) {
        super(sentences, Sentences.DESCRIPTION);
    }

    @Override
    void runAll() {
        callsOfAnObject();
        errorsChangeNothing();
        errorsInTheirOrder();
        sets();
        circuit();
        switchStates();
        steps();
        vicinities();
    }

    private void callsOfAnObject() {
        say("An object is used for at most 512 calls after it has been made; what later calls answer is free.");
        SwitchLevelSimulator s = Circuits.ring();
        int callsOfTheRing = 4 + 6 + 6;
        for (int call = callsOfTheRing + 1; call <= 511; call++) {
            s.step();
        }
        int steps = 511 - callsOfTheRing;
        SwitchLevelSimulator another = Circuits.ring();
        for (int step = 0; step < steps % 6; step++) {
            another.step();
        }
        due("the 512th call", s.nodesWith(1), another.nodesWith(1));
        SwitchLevelSimulator full = full();
        for (int call = 0; call < 370; call++) {
            full.detectedFaults(call % 24, 1);
        }
        due("a dear call after many", full.settle(100), UNSTABLE);
    }

    /** 24 nodes and 40 transistors, some with faults, of which nodes 2 to 4 swing with a period of 6; slot 0 is in use. */
    private static SwitchLevelSimulator full() {
        SwitchLevelSimulator s = Circuits.ring();
        s.save(0);
        for (int node = 5; node < 24; node++) {
            Circuits.storage(s, node % 3 + 1, node % 3);
        }
        for (int transistor = 6; transistor < 40; transistor++) {
            s.addTransistor(transistor % 3, transistor % 2 + 1, transistor % 24, 5 + transistor % 18, 23);
        }
        s.setFault(7, STUCK_OPEN);
        s.setFault(38, STUCK_CLOSED);
        s.setFault(39, STUCK_OPEN);
        return s;
    }

    /** A ring and no more, so that there is room for what must not be added. */
    private static SwitchLevelSimulator roomy() {
        SwitchLevelSimulator s = Circuits.ring();
        s.save(0);
        s.setFault(5, STUCK_OPEN);
        s.setFault(5, NO_FAULT);
        return s;
    }

    private void errorsChangeNothing() {
        say("A call that returns an error code changes nothing, except settle() when it returns UNSTABLE.");
        changesNothing("addInput", FULL, s -> s.addInput());
        changesNothing("addStorage", FULL, s -> s.addStorage(3));
        changesNothing("addTransistor", FULL, s -> s.addTransistor(D, 3, 0, 1, 2));
        for (boolean full : new boolean[] {false, true}) {
            errorsOfTheCircuit(full);
            errorsOfTheValues(full);
            errorsOfTheSimulation(full);
            errorsOfTheFaults(full);
            errorsOfTheSlots(full);
        }
        settleMayChangeValues();
    }

    private void errorsOfTheCircuit(boolean full) {
        int none = full ? 24 : 5;
        changesNothing("addStorage(0)", full, OUT_OF_RANGE, s -> s.addStorage(0));
        changesNothing("addStorage(4)", full, OUT_OF_RANGE, s -> s.addStorage(4));
        changesNothing("addTransistor, gate", full, NO_SUCH_NODE, s -> s.addTransistor(D, 3, none, 1, 2));
        changesNothing("addTransistor, one", full, NO_SUCH_NODE, s -> s.addTransistor(D, 3, 0, none, 2));
        changesNothing("addTransistor, other", full, NO_SUCH_NODE, s -> s.addTransistor(D, 3, 0, 1, none));
        changesNothing("addTransistor, same", full, SAME_NODE, s -> s.addTransistor(D, 3, 0, 2, 2));
        changesNothing("addTransistor, type", full, OUT_OF_RANGE, s -> s.addTransistor(3, 3, 0, 1, 2));
        changesNothing("addTransistor, strength", full, OUT_OF_RANGE, s -> s.addTransistor(D, 4, 0, 1, 2));
    }

    private void errorsOfTheValues(boolean full) {
        int none = full ? 24 : 5;
        int noTransistor = full ? 40 : 6;
        changesNothing("setInput, no node", full, NO_SUCH_NODE, s -> s.setInput(none, 1));
        changesNothing("setInput, storage", full, WRONG_NODE, s -> s.setInput(2, 1));
        changesNothing("setInput, value", full, OUT_OF_RANGE, s -> s.setInput(0, 3));
        changesNothing("setCharge, no node", full, NO_SUCH_NODE, s -> s.setCharge(none, 1));
        changesNothing("setCharge, input", full, WRONG_NODE, s -> s.setCharge(0, 1));
        changesNothing("setCharge, value", full, OUT_OF_RANGE, s -> s.setCharge(2, -1));
        changesNothing("value", full, NO_SUCH_NODE, s -> s.value(none));
        changesNothing("nodesWith", full, OUT_OF_RANGE, s -> s.nodesWith(3));
        changesNothing("switchState", full, NO_SUCH_TRANSISTOR, s -> s.switchState(noTransistor));
        changesNothing("definiteStrength", full, NO_SUCH_NODE, s -> s.definiteStrength(none));
        changesNothing("upStrength", full, NO_SUCH_NODE, s -> s.upStrength(none));
        changesNothing("downStrength", full, NO_SUCH_NODE, s -> s.downStrength(none));
        changesNothing("steadyValue", full, NO_SUCH_NODE, s -> s.steadyValue(none));
        changesNothing("vicinity", full, NO_SUCH_NODE, s -> s.vicinity(none));
    }

    private void errorsOfTheSimulation(boolean full) {
        changesNothing("settle(0)", full, OUT_OF_RANGE, s -> s.settle(0));
        changesNothing("settle(101)", full, OUT_OF_RANGE, s -> s.settle(101));
        changesNothing("period(0)", full, OUT_OF_RANGE, s -> s.period(0));
        changesNothing("period(101)", full, OUT_OF_RANGE, s -> s.period(101));
        changesNothing("period(5)", full, NONE, s -> s.period(5));
    }

    private void errorsOfTheFaults(boolean full) {
        int none = full ? 24 : 5;
        int noTransistor = full ? 40 : 6;
        changesNothing("setFault, no transistor", full, NO_SUCH_TRANSISTOR, s -> s.setFault(noTransistor, STUCK_OPEN));
        changesNothing("setFault, fault", full, OUT_OF_RANGE, s -> s.setFault(0, 3));
        changesNothing("detects, no transistor", full, NO_SUCH_TRANSISTOR, s -> s.detects(noTransistor, 1, 2, 9));
        changesNothing("detects, no node", full, NO_SUCH_NODE, s -> s.detects(0, 1, none, 9));
        changesNothing("detects, fault", full, OUT_OF_RANGE, s -> s.detects(0, 0, 2, 9));
        changesNothing("detects, limit", full, OUT_OF_RANGE, s -> s.detects(0, 1, 2, 101));
        changesNothing("detectedFaults, no node", full, NO_SUCH_NODE, s -> s.detectedFaults(none, 9));
        changesNothing("detectedFaults, limit", full, OUT_OF_RANGE, s -> s.detectedFaults(2, 0));
    }

    private void errorsOfTheSlots(boolean full) {
        changesNothing("save(-1)", full, OUT_OF_RANGE, s -> s.save(-1));
        changesNothing("save(2)", full, OUT_OF_RANGE, s -> s.save(2));
        changesNothing("restore(-1)", full, OUT_OF_RANGE, s -> s.restore(-1));
        changesNothing("restore(2)", full, OUT_OF_RANGE, s -> s.restore(2));
        changesNothing("restore(1)", full, NOT_SAVED, s -> s.restore(1));
    }

    private void changesNothing(String what, int error, Call call) {
        changesNothing(what, true, error, call);
    }

    private void changesNothing(String what, boolean full, int error, Call call) {
        SwitchLevelSimulator s = full ? full() : roomy();
        int[] before = picture(s);
        due(what, call.on(s), error);
        same(what, picture(s), before);
        due(what + ", slot 1 stays empty", s.restore(1), NOT_SAVED);
        due(what + ", slot 0 stays", s.restore(0), 5);
        due(what + ", ones in slot 0", s.nodesWith(1), 0b01010);
        due(what + ", faults in slot 0", s.clearFaults(), 0);
    }

    private void settleMayChangeValues() {
        SwitchLevelSimulator s = full();
        SwitchLevelSimulator byHand = full();
        for (int step = 0; step < 7; step++) {
            byHand.step();
        }
        due("settle(7)", s.settle(7), UNSTABLE);
        same("after seven steps", picture(s), picture(byHand));
        due("slot 0 stays", s.restore(0), 5);
        due("ones in slot 0", s.nodesWith(1), 0b01010);
    }

    private void errorsInTheirOrder() {
        say("When several errors apply, a method returns the one that its description lists first.");
        transistorErrorsTogether();
        SwitchLevelSimulator s = full();
        due("addStorage: size, full", s.addStorage(0), OUT_OF_RANGE);
        due("addStorage: size, full", s.addStorage(4), OUT_OF_RANGE);
        due("setInput: node, value", s.setInput(24, 3), NO_SUCH_NODE);
        due("setInput: storage, value", s.setInput(23, -1), WRONG_NODE);
        due("setCharge: node, value", s.setCharge(-1, 3), NO_SUCH_NODE);
        due("setCharge: input, value", s.setCharge(0, 3), WRONG_NODE);
        due("settle: limit, unstable", s.settle(0), OUT_OF_RANGE);
        due("settle: limit, unstable", s.settle(101), OUT_OF_RANGE);
        due("period: limit, none", s.period(0), OUT_OF_RANGE);
        due("setFault: transistor, fault", s.setFault(40, 3), NO_SUCH_TRANSISTOR);
        due("detectedFaults: node, limit", s.detectedFaults(24, 0), NO_SUCH_NODE);
        due("restore: slot, not saved", s.restore(2), OUT_OF_RANGE);
        for (int errors = 1; errors < 16; errors++) {
            int transistor = (errors & 1) != 0 ? 40 : 39;
            int node = (errors & 2) != 0 ? 24 : 23;
            int fault = (errors & 4) != 0 ? 3 : 1;
            int limit = (errors & 8) != 0 ? 101 : 100;
            int first = transistor == 40 ? NO_SUCH_TRANSISTOR : node == 24 ? NO_SUCH_NODE : OUT_OF_RANGE;
            due("detects: errors " + errors, s.detects(transistor, fault, node, limit), first);
        }
    }

    private void transistorErrorsTogether() {
        for (int errors = 1; errors < 16; errors++) {
            boolean noNode = (errors & 1) != 0;
            boolean same = (errors & 2) != 0;
            boolean range = (errors & 4) != 0;
            boolean full = (errors & 8) != 0;
            int first = noNode ? NO_SUCH_NODE : same ? SAME_NODE : range ? OUT_OF_RANGE : FULL;
            SwitchLevelSimulator s = full ? full() : roomy();
            int none = full ? 24 : 5;
            int other = same ? 1 : 2;
            due("addTransistor: gate and errors " + errors, s.addTransistor(range ? 3 : N, 1, noNode ? none : 0, 1, other), first);
            due("addTransistor: strength and errors " + errors, s.addTransistor(N, range ? 0 : 1, noNode ? -1 : 0, 1, other), first);
            if (noNode) {
                int end = same ? none : 0;
                due("addTransistor: ends and errors " + errors, s.addTransistor(range ? -1 : P, 1, 0, none, end), first);
                due("addTransistor: ends and errors " + errors, s.addTransistor(P, range ? 4 : 1, 0, end, none), first);
            }
        }
    }

    private void sets() {
        say("A set of nodes is an int in which bit n is set if node n is in the set.");
        SwitchLevelSimulator s = new SwitchLevelSimulator();
        due("no node", s.nodesWith(X), 0);
        for (int node = 0; node < 24; node++) {
            if (node == 0 || node == 23) {
                Circuits.input(s, 1);
            } else {
                Circuits.storage(s, 1, 0);
            }
        }
        due("nodes 0 and 23", s.inputs(), 0x800001);
        due("nodes 0 and 23", s.nodesWith(1), 0x800001);
        due("nodes 1 to 22", s.nodesWith(0), 0x7FFFFE);
        Circuits.wire(s, 1, 23, 22);
        due("node 22", s.step(), 0x400000);
        due("nodes 1 and 22", s.vicinity(1) | s.vicinity(22), 0x400002);
    }

    private void circuit() {
        say("There are up to 24 nodes and up to 40 transistors, both numbered from 0 in the order in which they were added.");
        SwitchLevelSimulator s = new SwitchLevelSimulator();
        for (int node = 0; node < 24; node++) {
            due("node", node % 5 < 2 ? s.addInput() : s.addStorage(1), node);
        }
        for (int transistor = 0; transistor < 40; transistor++) {
            due("transistor", s.addTransistor(transistor % 3, 1, 23, transistor % 22, 22), transistor);
        }
        due("a 25th node", s.addInput(), FULL);
        due("a 25th node", s.addStorage(1), FULL);
        due("a 41st transistor", s.addTransistor(N, 1, 0, 1, 2), FULL);

        say("A node is an input node or a storage node; a storage node has a size from 1 to 3.");
        s = new SwitchLevelSimulator();
        due("size 0", s.addStorage(0), OUT_OF_RANGE);
        due("size 1", s.addStorage(1), 0);
        due("size 2", s.addStorage(2), 1);
        due("size 3", s.addStorage(3), 2);
        due("size 4", s.addStorage(4), OUT_OF_RANGE);
        s.addInput();
        due("three storage nodes and an input node", s.inputs(), 0b1000);

        say("Each node has a value: 0, 1 or X (the number 2).");
        due("X at first", s.value(0), 2);
        s.setCharge(0, 0);
        s.setCharge(1, 1);
        same("0, 1 and X", new int[] {s.value(0), s.value(1), s.value(2)}, new int[] {0, 1, 2});

        say("A transistor has a type (N, P or D), a strength from 1 to 3, a gate, which is a node, and two ends, which are two different nodes.");
        due("type -1", s.addTransistor(-1, 1, 0, 1, 2), OUT_OF_RANGE);
        due("type 3", s.addTransistor(3, 1, 0, 1, 2), OUT_OF_RANGE);
        due("strength 0", s.addTransistor(N, 0, 0, 1, 2), OUT_OF_RANGE);
        due("strength 4", s.addTransistor(N, 4, 0, 1, 2), OUT_OF_RANGE);
        due("no node as a gate", s.addTransistor(N, 1, 4, 1, 2), NO_SUCH_NODE);
        due("one node as both ends", s.addTransistor(N, 1, 0, 2, 2), SAME_NODE);
        for (int type = N; type <= D; type++) {
            for (int strength = 1; strength <= 3; strength++) {
                due("type " + type + ", strength " + strength, s.addTransistor(type, strength, 0, 1, 2), type * 3 + strength - 1);
            }
        }

        say("The gate may be one of the ends.");
        due("one end", s.addTransistor(N, 1, 1, 1, 2), 9);
        due("the other end", s.addTransistor(P, 1, 2, 1, 2), 10);
        due("closed by the end with 1", s.switchState(9), CLOSED);
        due("unknown by the end with X", s.switchState(10), UNKNOWN);
    }

    /** Node 0 is the gate of transistors 0, 1 and 2, of the types N, P and D. */
    private static SwitchLevelSimulator oneOfEachType() {
        SwitchLevelSimulator s = new SwitchLevelSimulator();
        s.addInput();
        s.addStorage(1);
        s.addStorage(1);
        for (int type = N; type <= D; type++) {
            s.addTransistor(type, 1, 0, 1, 2);
        }
        return s;
    }

    private void statesByGate(String what, int type, int[] dueByValue) {
        SwitchLevelSimulator s = oneOfEachType();
        for (int value = 0; value <= X; value++) {
            s.setInput(0, value);
            due(what + " with gate " + value, s.switchState(type), dueByValue[value]);
        }
    }

    private void switchStates() {
        say("A transistor is OPEN, CLOSED or UNKNOWN.");
        SwitchLevelSimulator s = oneOfEachType();
        s.setInput(0, 0);
        due("open", s.switchState(0), 0);
        due("closed", s.switchState(1), 1);
        s.setInput(0, X);
        due("unknown", s.switchState(1), 2);

        say("A transistor with the fault STUCK_OPEN is OPEN, and one with the fault STUCK_CLOSED is CLOSED.");
        for (int type = N; type <= D; type++) {
            for (int value = 0; value <= X; value++) {
                s.setInput(0, value);
                s.setFault(type, STUCK_OPEN);
                due("stuck open, type " + type + ", gate " + value, s.switchState(type), OPEN);
                s.setFault(type, STUCK_CLOSED);
                due("stuck closed, type " + type + ", gate " + value, s.switchState(type), CLOSED);
            }
        }

        say("Otherwise a D transistor is CLOSED.");
        statesByGate("D", D, new int[] {CLOSED, CLOSED, CLOSED});

        say("An N transistor is CLOSED if the value of its gate is 1, OPEN if it is 0, UNKNOWN if it is X.");
        statesByGate("N", N, new int[] {OPEN, CLOSED, UNKNOWN});

        say("A P transistor is CLOSED if the value of its gate is 0, OPEN if it is 1, UNKNOWN if it is X.");
        statesByGate("P", P, new int[] {CLOSED, OPEN, UNKNOWN});
    }

    private void steps() {
        say("A step replaces the values of all nodes by their steady values at the same time.");
        SwitchLevelSimulator s = Circuits.ring();
        int[] steady = new int[5];
        for (int node = 0; node < 5; node++) {
            steady[node] = s.steadyValue(node);
        }
        s.step();
        for (int node = 0; node < 5; node++) {
            due("node " + node, s.value(node), steady[node]);
        }
        // One after the other, the second node would never see the first one's old value.
        s = Circuits.rails();
        int a = Circuits.storage(s, 1, 0);
        int b = Circuits.storage(s, 1, 0);
        Circuits.inverter(s, 1, a, b);
        Circuits.inverter(s, 1, b, a);
        due("two inverters that face each other", s.step(), 0b1100);
        due("two inverters that face each other", s.nodesWith(1), 0b1110);

        say("The circuit is stable if a step would not change any value.");
        due("not stable", s.settle(1), UNSTABLE);
        s.setCharge(a, 1);
        s.setCharge(b, 0);
        due("stable", s.settle(1), 0);
        due("a step", s.step(), 0);
        SwitchLevelSimulator empty = new SwitchLevelSimulator();
        due("without nodes", empty.settle(1), 0);
        empty.addInput();
        due("with inputs alone", empty.settle(1), 0);

        say("To settle within a limit means to make steps until the circuit is stable, but at most as many as the limit.");
        s = Circuits.row(3);
        due("two steps", s.settle(2), UNSTABLE);
        due("two steps are made", s.nodesWith(X), 0b100000);
        due("one step is left", s.settle(2), 1);
        due("no step is left", s.settle(2), 0);
    }

    private void vicinities() {
        say("The vicinity of a storage node is the set of the storage nodes that can be reached from it through transistors that are not OPEN without passing an input node; it contains the node itself.");
        SwitchLevelSimulator s = Circuits.rails();
        for (int node = 2; node < 24; node++) {
            Circuits.storage(s, 1, 0);
        }
        due("alone", s.vicinity(23), 1 << 23);
        s.addTransistor(N, 1, POWER, 2, 3);
        s.addTransistor(N, 1, 22, 3, 4);
        Circuits.wire(s, 1, 4, 23);
        s.addTransistor(N, 1, GROUND, 23, 5);
        Circuits.wire(s, 1, 2, POWER);
        Circuits.wire(s, 1, POWER, 6);
        due("closed, not through an open one", s.vicinity(2), 0b1100);
        due("closed, not through an open one", s.vicinity(23), 1 << 23 | 1 << 4);
        s.setCharge(22, X);
        due("closed and unknown", s.vicinity(2), 1 << 23 | 0b11100);
        due("from the far end", s.vicinity(23), 1 << 23 | 0b11100);
        due("a gate is no way", s.vicinity(22), 1 << 22);
        due("behind an input node", s.vicinity(6), 1 << 6);
        s = new SwitchLevelSimulator();
        for (int node = 0; node < 4; node++) {
            s.addStorage(1);
        }
        Circuits.wire(s, 1, 1, 2);
        due("without node 0", s.vicinity(1), 0b0110);
        due("without node 0", s.vicinity(3), 0b1000);
        due("node 0 alone", s.vicinity(0), 0b0001);
        Circuits.wire(s, 1, 0, 2);
        due("with node 0", s.vicinity(1), 0b0111);

        say("The vicinity of an input node is empty.");
        int input = s.addInput();
        due("without neighbors", s.vicinity(input), 0);
        Circuits.wire(s, 1, input, 0);
        due("with neighbors", s.vicinity(input), 0);
    }
}
