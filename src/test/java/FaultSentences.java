/** Promises 23 to 26, sentence by sentence. */
final class FaultSentences extends SentenceGroup {
    private static final int[] WRONG_LIMITS = {0, 101, -1, LEAST, MOST};

    FaultSentences(Sentences sentences) {
        super(sentences, 23);
    }

    @Override
    void runAll() {
        setFault();
        clearFaults();
        detects();
        detectsStableCopies();
        detectsRangesAndErrors();
        detectedFaults();
    }

    /** Rails, and node 2 of size 3 with a charge 0, which 40 open transistors of strength 2 join to power. */
    private static SwitchLevelSimulator fortyOpen() {
        SwitchLevelSimulator s = Circuits.rails();
        Circuits.storage(s, 3, 0);
        for (int transistor = 0; transistor < 40; transistor++) {
            s.addTransistor(N, 2, GROUND, 2, POWER);
        }
        return s;
    }

    /** Rails, and node 2 with the charge, which transistor 0, always closed, joins to ground. */
    private static SwitchLevelSimulator grounded(int charge) {
        SwitchLevelSimulator s = Circuits.rails();
        Circuits.storage(s, 1, charge);
        Circuits.wire(s, 2, 2, GROUND);
        return s;
    }

    private void setFault() {
        promise(23);
        say("Gives a transistor a fault, or takes it away.");
        SwitchLevelSimulator s = fortyOpen();
        s.setFault(39, STUCK_CLOSED);
        due("given", s.switchState(39), CLOSED);
        due("no other one", s.switchState(38), OPEN);
        due("it acts", s.steadyValue(2), 1);
        s.setFault(39, NO_FAULT);
        due("taken away", s.switchState(39), OPEN);
        due("no value changes", s.value(2), 0);

        say("`fault`: NO_FAULT, STUCK_OPEN or STUCK_CLOSED");
        int[] states = {OPEN, OPEN, CLOSED};
        for (int fault = NO_FAULT; fault <= STUCK_CLOSED; fault++) {
            s.setFault(0, fault);
            due("fault " + fault, s.switchState(0), states[fault]);
        }

        say("Returns the previous fault");
        int previous = STUCK_CLOSED;
        for (int fault : new int[] {2, 0, 0, 1, 1, 2, 1, 0, 2}) {
            due("before " + fault, s.setFault(0, fault), previous);
            previous = fault;
        }
        due("another one has none", s.setFault(1, STUCK_OPEN), NO_FAULT);

        say("NO_SUCH_TRANSISTOR if the transistor does not exist (checked first)");
        due("without transistors", Circuits.rails().setFault(0, 1), NO_SUCH_TRANSISTOR);
        due("just behind the last", grounded(0).setFault(1, 1), NO_SUCH_TRANSISTOR);
        for (int transistor : new int[] {-1, 40, 64, LEAST, MOST}) {
            due("transistor " + transistor, s.setFault(transistor, 1), NO_SUCH_TRANSISTOR);
            due("and a wrong fault", s.setFault(transistor, 3), NO_SUCH_TRANSISTOR);
        }

        say("OUT_OF_RANGE if fault is out of range.");
        for (int fault : new int[] {-1, 3, LEAST, MOST}) {
            due("fault " + fault, s.setFault(0, fault), OUT_OF_RANGE);
        }
        due("the fault stays", s.setFault(0, 2), STUCK_CLOSED);
    }

    private void clearFaults() {
        promise(24);
        say("Takes away all faults");
        SwitchLevelSimulator s = fortyOpen();
        for (int transistor = 0; transistor < 40; transistor++) {
            s.setFault(transistor, 1 + transistor % 2);
        }
        int count = s.clearFaults();
        for (int transistor = 0; transistor < 40; transistor++) {
            due("transistor " + transistor, s.setFault(transistor, NO_FAULT), NO_FAULT);
        }
        due("no value changes", s.value(2), 0);

        say("returns how many transistors had one.");
        due("all 40", count, 40);
        due("none", s.clearFaults(), 0);
        s.setFault(0, STUCK_OPEN);
        s.setFault(39, STUCK_CLOSED);
        s.setFault(20, STUCK_OPEN);
        s.setFault(20, NO_FAULT);
        due("the first and the last", s.clearFaults(), 2);
        due("without transistors", Circuits.rails().clearFaults(), 0);
    }

    private void detects() {
        promise(25);
        say("Tells whether a fault is detected at a node, without changing anything.");
        SwitchLevelSimulator s = grounded(1);
        s.setFault(0, STUCK_CLOSED);
        s.save(1);
        int[] before = picture(s);
        due("detected", s.detects(0, STUCK_OPEN, 2, 10), 1);
        same("values and faults stay", picture(s), before);
        due("slot 0 stays empty", s.restore(0), NOT_SAVED);
        due("slot 1 stays", s.restore(1), 3);
        same("slot 1 stays", picture(s), before);

        say("Two copies of the circuit with its current values and faults are settled within the limit; in the second one the transistor is first given the fault in place of the one it has.");
        due("the charge is 1", grounded(1).detects(0, STUCK_OPEN, 2, 10), 1);
        due("the charge is 0 already", grounded(0).detects(0, STUCK_OPEN, 2, 10), 0);
        due("the fault it has", s.detects(0, STUCK_CLOSED, 2, 10), 0);
        s.setFault(0, STUCK_OPEN);
        due("the fault it has", s.detects(0, STUCK_OPEN, 2, 10), 0);
        due("the other fault", s.detects(0, STUCK_CLOSED, 2, 10), 1);
        due("the fault it has stays", s.setFault(0, NO_FAULT), STUCK_OPEN);
        s = fortyOpen();
        s.setFault(1, STUCK_CLOSED);
        due("the fault of another one acts in both", s.detects(0, STUCK_CLOSED, 2, 10), 0);
        due("and is taken away by one in its place", s.detects(1, STUCK_OPEN, 2, 10), 1);
    }

    private void detectsStableCopies() {
        say("The fault is detected if both copies are stable then and one of them has the value 0 at the node and the other one the value 1.");
        due("0 without, 1 with it", fortyOpen().detects(39, STUCK_CLOSED, 2, 1), 1);
        SwitchLevelSimulator s = Circuits.rails();
        int a = Circuits.storage(s, 1, 0);
        Circuits.wire(s, 1, a, POWER);
        due("1 without, 0 with it", s.detects(0, STUCK_OPEN, a, 1), 1);
        s.setCharge(a, X);
        due("1 without, X with it", s.detects(0, STUCK_OPEN, a, 1), 0);
        due("0 without, X with it", grounded(X).detects(0, STUCK_OPEN, 2, 1), 0);
        s = Circuits.rails();
        a = Circuits.storage(s, 1, X);
        s.addTransistor(N, 1, GROUND, a, POWER);
        s.addTransistor(N, 1, GROUND, a, GROUND);
        due("X without, 1 with it", s.detects(0, STUCK_CLOSED, a, 1), 0);
        due("X without, 0 with it", s.detects(1, STUCK_CLOSED, a, 1), 0);
        due("at another node", grounded(1).detects(0, STUCK_OPEN, GROUND, 10), 0);

        s = Circuits.restingAfter101Steps();
        int watched = Circuits.storage(s, 1, 1);
        int wire = Circuits.wire(s, 1, watched, GROUND);
        due("101 steps are needed", s.detects(wire, STUCK_OPEN, watched, 100), 0);
        s.step();
        s.setCharge(watched, 1);
        due("100 steps are needed, limit 99", s.detects(wire, STUCK_OPEN, watched, 99), 0);
        due("100 steps are needed, limit 100", s.detects(wire, STUCK_OPEN, watched, 100), 1);
        onlyOneCopyIsStable();
    }

    /** Node 2 is an inverter of itself, which transistor 2 keeps at rest. */
    private void onlyOneCopyIsStable() {
        SwitchLevelSimulator s = Circuits.rails();
        int a = Circuits.storage(s, 1, 1);
        Circuits.inverter(s, 1, a, a);
        int hold = Circuits.wire(s, 3, a, POWER);
        int watched = Circuits.storage(s, 1, 1);
        s.addTransistor(P, 1, a, watched, GROUND);
        due("the second one swings", s.detects(hold, STUCK_OPEN, watched, 100), 0);
        s.setFault(hold, STUCK_OPEN);
        s.step();
        s.step();
        due("the watched node is 0 now", s.value(watched), 0);
        s.setCharge(watched, 1);
        s.setCharge(a, 1);
        due("the first one swings", s.detects(hold, STUCK_CLOSED, watched, 100), 0);
        due("both swing", s.detects(3, STUCK_CLOSED, watched, 100), 0);
    }

    private void detectsRangesAndErrors() {
        say("`fault`: STUCK_OPEN or STUCK_CLOSED");
        SwitchLevelSimulator s = fortyOpen();
        due("stuck open", s.detects(0, STUCK_OPEN, 2, 10), 0);
        due("stuck closed", s.detects(0, STUCK_CLOSED, 2, 10), 1);

        say("`node`: the node that is observed");
        due("a storage node", s.detects(0, STUCK_CLOSED, 2, 10), 1);
        due("an input node, the same in both", s.detects(0, STUCK_CLOSED, POWER, 10), 0);

        say("`limit`: 1 to 100");
        due("limit 1", s.detects(0, STUCK_CLOSED, 2, 1), 1);
        due("limit 100", s.detects(0, STUCK_CLOSED, 2, 100), 1);

        say("Returns 1 if the fault is detected, otherwise 0");
        due("the last transistor", s.detects(39, STUCK_CLOSED, 2, 1), 1);
        due("the last transistor", s.detects(39, STUCK_OPEN, 2, 1), 0);

        say("NO_SUCH_TRANSISTOR if the transistor does not exist (checked first)");
        due("just behind the last", grounded(0).detects(1, 1, 2, 1), NO_SUCH_TRANSISTOR);
        for (int transistor : new int[] {-1, 40, 64, LEAST, MOST}) {
            due("transistor " + transistor, s.detects(transistor, 1, 2, 1), NO_SUCH_TRANSISTOR);
            due("and no node", s.detects(transistor, 1, 3, 1), NO_SUCH_TRANSISTOR);
            due("and a wrong fault", s.detects(transistor, 0, 2, 1), NO_SUCH_TRANSISTOR);
            due("and a wrong limit", s.detects(transistor, 1, 2, 0), NO_SUCH_TRANSISTOR);
        }

        say("NO_SUCH_NODE if the node does not exist (checked second)");
        for (int node : new int[] {-1, 3, 24, 32, 34, LEAST, MOST}) {
            due("node " + node, s.detects(0, 1, node, 1), NO_SUCH_NODE);
            due("and a wrong fault", s.detects(0, 3, node, 1), NO_SUCH_NODE);
            due("and a wrong limit", s.detects(0, 1, node, 101), NO_SUCH_NODE);
        }

        say("OUT_OF_RANGE if fault or limit is out of range.");
        for (int fault : new int[] {NO_FAULT, 3, -1, LEAST, MOST}) {
            due("fault " + fault, s.detects(0, fault, 2, 1), OUT_OF_RANGE);
        }
        for (int limit : WRONG_LIMITS) {
            due("limit " + limit, s.detects(0, 2, 2, limit), OUT_OF_RANGE);
        }
    }

    private void detectedFaults() {
        promise(26);
        say("Counts the detected faults, without changing anything: the pairs of a transistor and a fault (STUCK_OPEN or STUCK_CLOSED) that are detected at a node.");
        SwitchLevelSimulator s = fortyOpen();
        due("one fault each of 40", s.detectedFaults(2, 10), 40);
        s.setFault(5, STUCK_CLOSED);
        s.save(0);
        int[] before = picture(s);
        due("only the one that takes this one's place", s.detectedFaults(2, 10), 1);
        same("nothing changes", picture(s), before);
        due("slot 0 stays", s.restore(0), 3);
        same("slot 0 stays", picture(s), before);
        countedAsDetected();

        say("`node`: the node that is observed");
        due("an input node", s.detectedFaults(POWER, 10), 0);
        due("a storage node", s.detectedFaults(2, 10), 1);

        say("`limit`: 1 to 100");
        due("limit 1", s.detectedFaults(2, 1), 1);
        due("limit 100", s.detectedFaults(2, 100), 1);
        SwitchLevelSimulator slow = Circuits.restingAfter101Steps();
        int watched = Circuits.storage(slow, 1, 1);
        Circuits.wire(slow, 1, watched, GROUND);
        slow.step();
        slow.setCharge(watched, 1);
        due("100 steps are needed, limit 99", slow.detectedFaults(watched, 99), 0);
        due("100 steps are needed, limit 100", slow.detectedFaults(watched, 100), 1);

        say("Returns the number of pairs");
        due("without transistors", Circuits.rails().detectedFaults(0, 1), 0);
        due("none", grounded(0).detectedFaults(2, 1), 0);
        due("one", grounded(1).detectedFaults(2, 1), 1);

        say("NO_SUCH_NODE if the node does not exist (checked first)");
        due("without nodes", new SwitchLevelSimulator().detectedFaults(0, 1), NO_SUCH_NODE);
        for (int node : new int[] {-1, 3, 24, 32, 34, LEAST, MOST}) {
            due("node " + node, s.detectedFaults(node, 1), NO_SUCH_NODE);
            due("and a wrong limit", s.detectedFaults(node, 0), NO_SUCH_NODE);
        }

        say("OUT_OF_RANGE if limit is out of range.");
        for (int limit : WRONG_LIMITS) {
            due("limit " + limit, s.detectedFaults(2, limit), OUT_OF_RANGE);
            due("without transistors, limit " + limit, Circuits.rails().detectedFaults(0, limit), OUT_OF_RANGE);
        }
    }

    /** The count is the sum of what detects answers, also where both faults of a transistor are detected. */
    private void countedAsDetected() {
        SwitchLevelSimulator s = Circuits.row(3);
        s.settle(10);
        int watched = Circuits.storage(s, 1, 0);
        // Closed for one step, and open before the end of the row falls to 0.
        int pass = s.addTransistor(N, 1, 3, watched, 5);
        s.setInput(2, 1);
        due("it never lets the 1 in", s.detects(pass, STUCK_OPEN, watched, 10), 1);
        due("it lets the 1 out again", s.detects(pass, STUCK_CLOSED, watched, 10), 1);
        for (int node = 0; node <= watched; node++) {
            int sum = 0;
            for (int transistor = 0; transistor <= pass; transistor++) {
                sum += s.detects(transistor, STUCK_OPEN, node, 10) + s.detects(transistor, STUCK_CLOSED, node, 10);
            }
            due("node " + node, s.detectedFaults(node, 10), sum);
        }
    }
}
