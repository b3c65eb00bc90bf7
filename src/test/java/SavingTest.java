/** Promises 27 and 28: saving and restoring. */
public final class SavingTest {
    private static final Check CHECK = new Check();
    private static final int[] WRONG_SLOTS = {-1, 2, 32, Integer.MIN_VALUE, Integer.MAX_VALUE};

    public static void main(String[] args) {
        wrongSlots();
        nothingSaved();
        emptyCircuit();
        valuesAndFaults();
        theSlotKeepsIt();
        slotsAreApart();
        overwriting();
        growthAfterRestoring();
        restoringALargerCircuit();
        CHECK.finish();
    }

    private static void wrongSlots() {
        SwitchLevelSimulator s = Circuits.ring();
        for (int slot : WRONG_SLOTS) {
            CHECK.due("27 slot " + slot, s.save(slot), -3);
            CHECK.due("28 slot " + slot, s.restore(slot), -3);
        }
        CHECK.due("27 a wrong slot saves nothing", s.restore(0), -9);
        CHECK.due("27 a wrong slot saves nothing", s.restore(1), -9);
    }

    private static void nothingSaved() {
        SwitchLevelSimulator s = Circuits.ring();
        CHECK.due("27 slot 0", s.save(0), 5);
        s.setCharge(2, 2);
        CHECK.due("28 nothing in slot 1", s.restore(1), -9);
        CHECK.due("28 nothing changes", s.value(2), 2);
        CHECK.due("28 slot 0", s.restore(0), 5);
    }

    private static void emptyCircuit() {
        SwitchLevelSimulator s = new SwitchLevelSimulator();
        CHECK.due("27 an empty circuit", s.save(1), 0);
        s.addInput();
        CHECK.due("28 an empty circuit", s.restore(1), 0);
        CHECK.due("5 no nodes", s.nodeCount(), 0);
        CHECK.due("7 no inputs", s.inputs(), 0);
        CHECK.due("12 no nodes", s.nodesWith(2), 0);
        CHECK.due("3 the first node again", s.addStorage(2), 0);
        CHECK.due("7 no inputs", s.inputs(), 0);
        CHECK.due("14 its size", s.definiteStrength(0), 2);
    }

    private static void valuesAndFaults() {
        SwitchLevelSimulator s = Circuits.ring();
        s.setFault(0, 1);
        s.setFault(5, 2);
        s.setCharge(4, 2);
        CHECK.due("27 nodes", s.save(0), 5);
        CHECK.due("27 the circuit stays", s.nodesWith(1), 0b01010);
        CHECK.due("27 the faults stay", s.clearFaults(), 2);
        s.setInput(0, 1);
        s.forget();
        s.step();
        CHECK.due("28 nodes", s.restore(0), 5);
        CHECK.due("28 zeros", s.nodesWith(0), 0b00101);
        CHECK.due("28 ones", s.nodesWith(1), 0b01010);
        CHECK.due("28 unknowns", s.nodesWith(2), 0b10000);
        CHECK.due("28 fault", s.setFault(0, 1), 1);
        CHECK.due("28 fault", s.setFault(5, 2), 2);
        CHECK.due("28 no fault", s.setFault(1, 0), 0);
    }

    private static void theSlotKeepsIt() {
        SwitchLevelSimulator s = Circuits.ring();
        s.save(1);
        for (int i = 0; i < 3; i++) {
            CHECK.due("28 again", s.restore(1), 5);
            CHECK.due("28 the value", s.setCharge(3, 2), 1);
            CHECK.due("28 the fault", s.setFault(2, 1), 0);
            CHECK.due("28 the nodes", s.addStorage(1), 5);
            CHECK.due("28 the transistors", s.addTransistor(0, 1, 0, 0, 5), 6);
        }
    }

    private static void slotsAreApart() {
        SwitchLevelSimulator s = Circuits.ring();
        s.save(0);
        s.addInput();
        s.setCharge(2, 1);
        CHECK.due("27 slot 1", s.save(1), 6);
        CHECK.due("28 slot 0", s.restore(0), 5);
        CHECK.due("11 slot 0", s.value(2), 0);
        CHECK.due("28 slot 1", s.restore(1), 6);
        CHECK.due("11 slot 1", s.value(2), 1);
        CHECK.due("7 slot 1", s.inputs(), 0b100011);
    }

    private static void overwriting() {
        SwitchLevelSimulator s = Circuits.ring();
        s.save(0);
        s.setCharge(2, 2);
        s.setFault(1, 2);
        CHECK.due("27 again", s.save(0), 5);
        s.setCharge(2, 1);
        s.clearFaults();
        s.restore(0);
        CHECK.due("28 the last value saved", s.value(2), 2);
        CHECK.due("28 the last fault saved", s.setFault(1, 0), 2);
    }

    /** Nothing of what came behind the saved circuit may be seen in what is added in its place. */
    private static void growthAfterRestoring() {
        SwitchLevelSimulator s = Circuits.rails();
        s.save(0);
        int a = Circuits.storage(s, 3, 1);
        Circuits.wire(s, 3, a, Circuits.POWER);
        s.setFault(0, 2);
        CHECK.due("28 rails", s.restore(0), 2);
        CHECK.due("6 no transistors", s.transistorCount(), 0);
        CHECK.due("3 a new node in its place", s.addStorage(1), a);
        CHECK.due("11 it is X", s.value(a), 2);
        CHECK.due("14 its own size", s.definiteStrength(a), 1);
        CHECK.due("4 a new transistor in its place", s.addTransistor(Circuits.N, 1, 0, a, 1), 0);
        CHECK.due("4 it has no fault", s.setFault(0, 0), 0);
        CHECK.due("13 it is open", s.switchState(0), 0);
        CHECK.due("24 no fault", s.clearFaults(), 0);
        s.restore(0);
        CHECK.due("2 an input node in its place", s.addInput(), a);
        CHECK.due("7 inputs", s.inputs(), 0b111);
        CHECK.due("8 an input node", s.setInput(a, 0), 2);
        CHECK.due("14 an input node", s.definiteStrength(a), 7);
        CHECK.due("18 an input node", s.vicinity(a), 0);
    }

    private static void restoringALargerCircuit() {
        SwitchLevelSimulator s = new SwitchLevelSimulator();
        s.save(0);
        Circuits.input(s, 1);
        for (int node = 1; node < 24; node++) {
            Circuits.storage(s, node % 3 + 1, node % 3);
        }
        for (int transistor = 0; transistor < 40; transistor++) {
            s.addTransistor(transistor % 3, transistor % 3 + 1, transistor % 24, transistor % 23, 23);
            s.setFault(transistor, transistor * 7 % 3);
        }
        int[] before = picture(s);
        CHECK.due("27 24 nodes", s.save(1), 24);
        CHECK.due("28 no nodes", s.restore(0), 0);
        CHECK.due("28 24 nodes", s.restore(1), 24);
        int[] after = picture(s);
        for (int i = 0; i < before.length; i++) {
            CHECK.due("28 all is as it was, " + i, after[i], before[i]);
        }
    }

    private static int[] picture(SwitchLevelSimulator s) {
        int[] seen = new int[24 * 4 + 40 + 3];
        int at = 0;
        for (int node = 0; node < 24; node++) {
            seen[at++] = s.value(node);
            seen[at++] = s.definiteStrength(node);
            seen[at++] = s.upStrength(node);
            seen[at++] = s.downStrength(node);
        }
        for (int transistor = 0; transistor < 40; transistor++) {
            seen[at++] = s.switchState(transistor);
        }
        seen[at++] = s.inputs();
        seen[at++] = s.transistorCount();
        seen[at++] = s.active();
        return seen;
    }
}
