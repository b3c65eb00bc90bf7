/** Promises 23 to 26: faults and their detection. */
public final class FaultsTest {
    private static final Check CHECK = new Check();
    private static final int[] WRONG_TRANSISTORS = {-1, 2, 39, 40, Integer.MIN_VALUE, Integer.MAX_VALUE};
    private static final int[] WRONG_NODES = {-1, 4, 23, 24, 32, Integer.MIN_VALUE, Integer.MAX_VALUE};
    private static final int[] WRONG_LIMITS = {0, -1, 101, Integer.MIN_VALUE, Integer.MAX_VALUE};

    public static void main(String[] args) {
        setFault();
        setFaultErrors();
        clearFaults();
        heldCharge();
        strongerRival();
        unknownIsNotDetected();
        unstableWithoutTheFault();
        unstableWithTheFault();
        limitsOfTheCopies();
        faultInPlaceOfAnother();
        observedInputs();
        detectsErrors();
        countedPairs();
        detectedFaultsErrors();
        nothingChanges();
        CHECK.finish();
    }

    /** Rails, an input node 2 and an inverter with the output 3; transistor 1 is the stronger one. */
    private static SwitchLevelSimulator inverter(int in, int out) {
        SwitchLevelSimulator s = Circuits.rails();
        Circuits.input(s, in);
        Circuits.storage(s, 1, out);
        s.addTransistor(Circuits.N, 2, 2, 3, Circuits.GROUND);
        s.addTransistor(Circuits.P, 3, 2, 3, Circuits.POWER);
        return s;
    }

    private static void setFault() {
        SwitchLevelSimulator s = inverter(1, 2);
        CHECK.due("23 none before", s.setFault(0, 1), 0);
        CHECK.due("23 no value changes", s.value(3), 2);
        CHECK.due("13 stuck open", s.switchState(0), 0);
        CHECK.due("23 stuck open before", s.setFault(0, 2), 1);
        CHECK.due("23 the same again", s.setFault(0, 2), 2);
        CHECK.due("23 the other one has none", s.setFault(1, 2), 0);
        CHECK.due("13 stuck closed", s.switchState(1), 1);
        CHECK.due("23 taken away", s.setFault(1, 0), 2);
        CHECK.due("13 by its gate again", s.switchState(1), 0);
        CHECK.due("23 none now", s.setFault(1, 0), 0);
        CHECK.due("20 the fault acts", s.settle(10), 1);
        CHECK.due("11 the fault acts", s.value(3), 0);
    }

    private static void setFaultErrors() {
        SwitchLevelSimulator s = inverter(1, 0);
        s.setFault(0, 1);
        for (int transistor : WRONG_TRANSISTORS) {
            CHECK.due("23 transistor " + transistor, s.setFault(transistor, 9), -2);
        }
        for (int fault : new int[] {-1, 3, Integer.MIN_VALUE, Integer.MAX_VALUE}) {
            CHECK.due("23 fault " + fault, s.setFault(0, fault), -3);
        }
        CHECK.due("23 errors change nothing", s.setFault(0, 1), 1);
    }

    private static void clearFaults() {
        SwitchLevelSimulator s = Circuits.ring();
        CHECK.due("24 none", s.clearFaults(), 0);
        s.setFault(0, 1);
        s.setFault(3, 2);
        s.setFault(5, 2);
        s.setFault(4, 0);
        CHECK.due("24 three", s.clearFaults(), 3);
        CHECK.due("24 all are gone", s.clearFaults(), 0);
        for (int transistor = 0; transistor < 6; transistor++) {
            CHECK.due("24 gone", s.setFault(transistor, 0), 0);
        }
        CHECK.due("24 no value changes", s.nodesWith(1), 0b01010);
        s.save(0);
        s.addTransistor(0, 1, 0, 0, 1);
        s.setFault(6, 1);
        s.restore(0);
        CHECK.due("24 a transistor that is gone is not counted", s.clearFaults(), 0);
        for (int transistor = 6; transistor < 40; transistor++) {
            s.addTransistor(0, 1, 0, 0, 1);
            s.setFault(transistor, 1 + transistor % 2);
        }
        CHECK.due("24 up to the last of 40 transistors", s.clearFaults(), 34);
    }

    private static void heldCharge() {
        SwitchLevelSimulator s = inverter(1, 1);
        CHECK.due("25 the charge 1 stays with N open", s.detects(0, 1, 3, 10), 1);
        CHECK.due("25 N is closed anyway", s.detects(0, 2, 3, 10), 0);
        CHECK.due("25 P is open anyway", s.detects(1, 1, 3, 10), 0);
        s.setCharge(3, 0);
        CHECK.due("25 the charge is 0 already", s.detects(0, 1, 3, 10), 0);
    }

    private static void strongerRival() {
        SwitchLevelSimulator s = inverter(1, 2);
        CHECK.due("25 P wins", s.detects(1, 2, 3, 10), 1);
        s.setInput(2, 0);
        CHECK.due("25 N does not win", s.detects(0, 2, 3, 10), 0);
        s.setCharge(3, 0);
        CHECK.due("25 1 without and 0 with the fault", s.detects(1, 1, 3, 10), 1);
    }

    private static void unknownIsNotDetected() {
        SwitchLevelSimulator s = inverter(1, 2);
        CHECK.due("25 0 without and X with the fault", s.detects(0, 1, 3, 10), 0);
        s.setInput(2, 2);
        CHECK.due("25 X without and 1 with the fault", s.detects(1, 2, 3, 10), 0);
        s.setInput(Circuits.POWER, 2);
        s.setInput(2, 0);
        CHECK.due("25 X without the fault", s.detects(1, 1, 3, 10), 0);
    }

    private static void unstableWithoutTheFault() {
        SwitchLevelSimulator s = Circuits.ring();
        int watched = Circuits.storage(s, 1, 1);
        int wire = Circuits.wire(s, 2, watched, Circuits.GROUND);
        CHECK.due("25 the ring never rests", s.detects(wire, 1, watched, 100), 0);
        CHECK.due("26 the ring never rests", s.detectedFaults(watched, 100), 0);
        s.forget();
        s.setCharge(watched, 1);
        CHECK.due("25 the ring rests", s.detects(wire, 1, watched, 100), 1);
        CHECK.due("26 the ring rests", s.detectedFaults(watched, 100), 1);
    }

    /** The fault closes the ring, and sets the watched node to the opposite value. */
    private static void unstableWithTheFault() {
        SwitchLevelSimulator s = Circuits.rails();
        int a = Circuits.storage(s, 1, 1);
        Circuits.inverter(s, 1, a, a);
        int enable = Circuits.input(s, 0);
        int hold = Circuits.wire(s, 3, a, Circuits.POWER);
        int watched = Circuits.storage(s, 1, 1);
        CHECK.due("20 held at power", s.settle(10), 0);
        s.addTransistor(Circuits.N, 2, enable, watched, Circuits.GROUND);
        s.addTransistor(Circuits.P, 1, a, watched, Circuits.GROUND);
        CHECK.due("20 still held at power", s.settle(10), 0);
        CHECK.due("25 the watched node would become 0, but the ring swings", s.detects(hold, 1, watched, 100), 0);
        CHECK.due("25 at rest it is detected", s.detects(3, 2, watched, 100), 1);
        CHECK.due("26 at rest they are detected", s.detectedFaults(watched, 100), 2);
    }

    private static void limitsOfTheCopies() {
        SwitchLevelSimulator s = Circuits.row(4);
        s.settle(10);
        CHECK.due("11 the end of the row", s.value(6), 0);
        s.setInput(2, 1);
        s.settle(10);
        CHECK.due("11 the end of the row", s.value(6), 1);
        s.setInput(2, 0);
        CHECK.due("25 a limit that is too low", s.detects(1, 1, 6, 3), 0);
        CHECK.due("25 a limit that suffices", s.detects(1, 1, 6, 4), 1);
        CHECK.due("26 a limit that is too low", s.detectedFaults(6, 3), 0);
        CHECK.due("26 a limit that suffices", s.detectedFaults(6, 4), 4);
        s.settle(10);
        s.setFault(1, 1);
        CHECK.due("20 P is open, the charge stays", s.settle(10), 0);
        CHECK.due("25 opposite, but the second copy is not stable yet", s.detects(0, 2, 3, 3), 0);
        CHECK.due("25 opposite, and the second copy is stable", s.detects(0, 2, 3, 4), 1);
    }

    private static void faultInPlaceOfAnother() {
        SwitchLevelSimulator s = inverter(1, 1);
        s.setFault(0, 1);
        CHECK.due("25 the fault that it has", s.detects(0, 1, 3, 10), 0);
        CHECK.due("25 another in its place", s.detects(0, 2, 3, 10), 1);
        CHECK.due("26 with a fault", s.detectedFaults(3, 10), 1);
        CHECK.due("23 the fault stays", s.setFault(0, 0), 1);
        s.setFault(1, 2);
        CHECK.due("25 P holds it at 1 with and without", s.detects(0, 1, 3, 10), 0);
        CHECK.due("25 taken from P", s.detects(1, 1, 3, 10), 1);
        CHECK.due("23 the fault stays", s.setFault(1, 0), 2);
    }

    private static void observedInputs() {
        SwitchLevelSimulator s = inverter(1, 1);
        for (int node = 0; node <= 2; node++) {
            CHECK.due("25 an input node shows nothing", s.detects(0, 1, node, 10), 0);
            CHECK.due("26 an input node shows nothing", s.detectedFaults(node, 10), 0);
        }
    }

    private static void detectsErrors() {
        SwitchLevelSimulator s = inverter(1, 1);
        for (int transistor : WRONG_TRANSISTORS) {
            CHECK.due("25 transistor " + transistor, s.detects(transistor, 1, 3, 10), -2);
            CHECK.due("25 no transistor is told first", s.detects(transistor, 9, 9, 0), -2);
        }
        for (int node : WRONG_NODES) {
            CHECK.due("25 node " + node, s.detects(0, 1, node, 10), -1);
            CHECK.due("25 no node is told second", s.detects(0, 9, node, 0), -1);
        }
        for (int fault : new int[] {0, -1, 3, Integer.MIN_VALUE, Integer.MAX_VALUE}) {
            CHECK.due("25 fault " + fault, s.detects(0, fault, 3, 10), -3);
        }
        for (int limit : WRONG_LIMITS) {
            CHECK.due("25 limit " + limit, s.detects(0, 1, 3, limit), -3);
        }
        CHECK.due("25 limit 1", s.detects(0, 1, 3, 1), 1);
        CHECK.due("25 limit 100", s.detects(0, 1, 3, 100), 1);
    }

    private static void countedPairs() {
        CHECK.due("26 a circuit without transistors", Circuits.rails().detectedFaults(0, 1), 0);
        CHECK.due("26 two of an inverter", inverter(1, 1).detectedFaults(3, 10), 2);
        CHECK.due("26 one of an inverter", inverter(1, 0).detectedFaults(3, 10), 1);
        CHECK.due("26 one of an inverter with X", inverter(1, 2).detectedFaults(3, 10), 1);
        CHECK.due("26 none with an unknown input", inverter(2, 0).detectedFaults(3, 10), 0);
        SwitchLevelSimulator s = Circuits.rails();
        int a = Circuits.storage(s, 3, 0);
        for (int i = 0; i < 40; i++) {
            s.addTransistor(Circuits.N, 2, Circuits.GROUND, a, Circuits.POWER);
        }
        CHECK.due("26 the last of 40 transistors", s.detects(39, 2, a, 1), 1);
        CHECK.due("26 each of 40 transistors", s.detectedFaults(a, 1), 40);
    }

    private static void detectedFaultsErrors() {
        SwitchLevelSimulator s = inverter(1, 1);
        for (int node : WRONG_NODES) {
            CHECK.due("26 node " + node, s.detectedFaults(node, 10), -1);
            CHECK.due("26 no node is told first", s.detectedFaults(node, 0), -1);
        }
        for (int limit : WRONG_LIMITS) {
            CHECK.due("26 limit " + limit, s.detectedFaults(3, limit), -3);
        }
        CHECK.due("26 limit 1", s.detectedFaults(3, 1), 2);
        CHECK.due("26 limit 100", s.detectedFaults(3, 100), 2);
    }

    private static void nothingChanges() {
        SwitchLevelSimulator s = inverter(1, 1);
        s.setFault(1, 2);
        s.save(0);
        s.detects(0, 1, 3, 10);
        s.detectedFaults(3, 10);
        CHECK.due("25, 26 values stay", s.nodesWith(1), 0b1110);
        CHECK.due("25, 26 values stay", s.nodesWith(0), 0b0001);
        CHECK.due("25, 26 faults stay", s.setFault(0, 0), 0);
        CHECK.due("25, 26 faults stay", s.setFault(1, 0), 2);
        s.restore(0);
        CHECK.due("25, 26 what is saved stays", s.setFault(1, 0), 2);
        CHECK.due("25, 26 what is saved stays", s.nodesWith(1), 0b1110);
    }
}
