/** Promises 14 to 18: signal strengths, steady values and vicinities. */
public final class SteadyStateTest {
    private static final Check CHECK = new Check();

    public static void main(String[] args) {
        inputNodes();
        lonelyStorageNodes();
        weakestPartOfAWay();
        strongestOfTheWays();
        inputsPassNothingOn();
        rivalsOfUnlikeStrength();
        unknownSwitches();
        definiteSignalsKeepWeakOnesOut();
        blockedSignalsGoNoFurther();
        chargeSharing();
        ringsDoNotFeedThemselves();
        longRows();
        eachAskedAlone();
        steadyValueChangesNothing();
        vicinity();
        wrongNodes();
        CHECK.finish();
    }

    private static void strengths(String what, SwitchLevelSimulator s, int node, int[] due) {
        CHECK.due("14 " + what + ": definiteStrength", s.definiteStrength(node), due[0]);
        CHECK.due("15 " + what + ": upStrength", s.upStrength(node), due[1]);
        CHECK.due("16 " + what + ": downStrength", s.downStrength(node), due[2]);
        CHECK.due("17 " + what + ": steadyValue", s.steadyValue(node), due[3]);
    }

    private static int[] due(int definite, int up, int down, int steady) {
        return new int[] {definite, up, down, steady};
    }

    private static void inputNodes() {
        SwitchLevelSimulator s = new SwitchLevelSimulator();
        s.addInput();
        strengths("input X", s, 0, due(7, 7, 7, 2));
        s.setInput(0, 0);
        strengths("input 0", s, 0, due(7, 0, 7, 0));
        s.setInput(0, 1);
        strengths("input 1", s, 0, due(7, 7, 0, 1));
        Circuits.input(s, 0);
        Circuits.wire(s, 3, 0, 1);
        strengths("input 1 beside input 0", s, 0, due(7, 7, 0, 1));
        strengths("input 0 beside input 1", s, 1, due(7, 0, 7, 0));
    }

    private static void lonelyStorageNodes() {
        for (int size = 1; size <= 3; size++) {
            SwitchLevelSimulator s = new SwitchLevelSimulator();
            s.addStorage(size);
            strengths("charge X", s, 0, due(size, size, size, 2));
            s.setCharge(0, 0);
            strengths("charge 0", s, 0, due(size, 0, size, 0));
            s.setCharge(0, 1);
            strengths("charge 1", s, 0, due(size, size, 0, 1));
        }
    }

    private static void weakestPartOfAWay() {
        SwitchLevelSimulator s = Circuits.rails();
        int a = Circuits.storage(s, 1, 0);
        int b = Circuits.storage(s, 3, 0);
        int c = Circuits.storage(s, 2, 0);
        Circuits.wire(s, 3, Circuits.POWER, a);
        Circuits.wire(s, 1, a, b);
        Circuits.wire(s, 2, b, c);
        strengths("through strength 3", s, a, due(6, 6, 0, 1));
        strengths("through strengths 3 and 1", s, b, due(4, 4, 0, 1));
        strengths("through strengths 3, 1 and 2", s, c, due(4, 4, 0, 1));
    }

    private static void strongestOfTheWays() {
        SwitchLevelSimulator s = Circuits.rails();
        int a = Circuits.storage(s, 1, 1);
        int b = Circuits.storage(s, 1, 1);
        Circuits.wire(s, 1, Circuits.GROUND, a);
        Circuits.wire(s, 3, a, b);
        Circuits.wire(s, 2, b, Circuits.GROUND);
        strengths("a strong way round", s, a, due(5, 0, 5, 0));
        strengths("a strong way straight", s, b, due(5, 0, 5, 0));
    }

    private static void inputsPassNothingOn() {
        SwitchLevelSimulator s = Circuits.rails();
        int a = Circuits.storage(s, 1, 2);
        Circuits.wire(s, 3, Circuits.GROUND, Circuits.POWER);
        Circuits.wire(s, 3, Circuits.POWER, a);
        strengths("behind power", s, a, due(6, 6, 0, 1));
        s.setInput(Circuits.POWER, 2);
        strengths("behind an input X", s, a, due(6, 6, 6, 2));
        s.setInput(Circuits.GROUND, 1);
        s.setInput(Circuits.POWER, 0);
        strengths("behind an input 0", s, a, due(6, 0, 6, 0));
    }

    private static void rivalsOfUnlikeStrength() {
        for (int toGround = 1; toGround <= 3; toGround++) {
            for (int toPower = 1; toPower <= 3; toPower++) {
                SwitchLevelSimulator s = Circuits.rails();
                int a = Circuits.storage(s, 3, 2);
                Circuits.wire(s, toGround, a, Circuits.GROUND);
                Circuits.wire(s, toPower, a, Circuits.POWER);
                int most = Math.max(toGround, toPower) + 3;
                int up = toPower >= toGround ? most : 0;
                int down = toGround >= toPower ? most : 0;
                int value = toPower == toGround ? 2 : toPower > toGround ? 1 : 0;
                strengths("rivals " + toGround + " and " + toPower, s, a, due(most, up, down, value));
            }
        }
    }

    private static void unknownSwitches() {
        SwitchLevelSimulator s = Circuits.rails();
        int gate = Circuits.input(s, 2);
        int a = Circuits.storage(s, 2, 0);
        s.addTransistor(Circuits.N, 1, gate, a, Circuits.POWER);
        strengths("perhaps joined to power, charge 0", s, a, due(2, 4, 2, 2));
        s.setCharge(a, 1);
        strengths("perhaps joined to power, charge 1", s, a, due(2, 4, 0, 1));
        s.setCharge(a, 2);
        strengths("perhaps joined to power, charge X", s, a, due(2, 4, 2, 2));
        s.setInput(Circuits.POWER, 0);
        strengths("perhaps joined to 0, charge X", s, a, due(2, 2, 4, 2));
        s.setCharge(a, 0);
        strengths("perhaps joined to 0, charge 0", s, a, due(2, 0, 4, 0));
    }

    private static void definiteSignalsKeepWeakOnesOut() {
        for (int strength = 1; strength <= 3; strength++) {
            SwitchLevelSimulator s = Circuits.rails();
            int gate = Circuits.input(s, 2);
            int a = Circuits.storage(s, 3, 1);
            Circuits.wire(s, 2, a, Circuits.GROUND);
            s.addTransistor(Circuits.P, strength, gate, a, Circuits.POWER);
            int up = strength >= 2 ? strength + 3 : 0;
            strengths("perhaps power by " + strength, s, a, due(5, up, 5, up > 0 ? 2 : 0));
        }
    }

    private static void blockedSignalsGoNoFurther() {
        SwitchLevelSimulator s = Circuits.rails();
        int gate = Circuits.input(s, 2);
        int a = Circuits.storage(s, 1, 1);
        int b = Circuits.storage(s, 1, 1);
        s.addTransistor(Circuits.N, 1, gate, a, Circuits.POWER);
        Circuits.wire(s, 2, a, Circuits.GROUND);
        Circuits.wire(s, 1, a, b);
        strengths("where it is blocked", s, a, due(5, 0, 5, 0));
        strengths("behind that", s, b, due(4, 0, 4, 0));
        s.setInput(gate, 1);
        strengths("blocked though closed", s, a, due(5, 0, 5, 0));
        strengths("behind that", s, b, due(4, 0, 4, 0));
    }

    private static void chargeSharing() {
        for (int size = 1; size <= 3; size++) {
            for (int another = 1; another <= 3; another++) {
                SwitchLevelSimulator s = new SwitchLevelSimulator();
                int a = Circuits.storage(s, size, 1);
                int b = Circuits.storage(s, another, 0);
                Circuits.wire(s, 1, a, b);
                int most = Math.max(size, another);
                int up = size >= another ? most : 0;
                int down = another >= size ? most : 0;
                int value = size == another ? 2 : size > another ? 1 : 0;
                strengths("shared charge " + size + " and " + another, s, a, due(most, up, down, value));
                strengths("shared charge " + size + " and " + another, s, b, due(most, up, down, value));
            }
        }
    }

    private static void ringsDoNotFeedThemselves() {
        SwitchLevelSimulator s = new SwitchLevelSimulator();
        int a = Circuits.storage(s, 1, 0);
        int b = Circuits.storage(s, 1, 0);
        int c = Circuits.storage(s, 1, 0);
        Circuits.wire(s, 3, a, b);
        Circuits.wire(s, 3, b, c);
        Circuits.wire(s, 3, c, a);
        Circuits.wire(s, 3, a, b);
        for (int node = 0; node <= c; node++) {
            strengths("in a ring of charges 0", s, node, due(1, 0, 1, 0));
        }
        s.setCharge(b, 2);
        for (int node = 0; node <= c; node++) {
            strengths("in a ring with a charge X", s, node, due(1, 1, 1, 2));
        }
    }

    private static void longRows() {
        for (int order = 0; order < 2; order++) {
            SwitchLevelSimulator s = new SwitchLevelSimulator();
            Circuits.input(s, 1);
            for (int node = 1; node < 24; node++) {
                Circuits.storage(s, 3, 0);
            }
            for (int i = 0; i < 23; i++) {
                int node = order == 0 ? i : 22 - i;
                Circuits.wire(s, 2, node, node + 1);
            }
            strengths("the end of a long row", s, 23, due(5, 5, 0, 1));
            CHECK.due("18 a long row", s.vicinity(23), 0xFFFFFE);
            CHECK.due("19 one step through a long row", s.step(), 0xFFFFFE);
        }
    }

    /** Each answer is about the current values, whatever was asked before. */
    private static void eachAskedAlone() {
        SwitchLevelSimulator s = Circuits.row(1);
        CHECK.due("15 joined to power", s.upStrength(3), 5);
        s.setInput(2, 1);
        CHECK.due("15 joined to ground", s.upStrength(3), 0);
        s.setInput(2, 0);
        CHECK.due("16 joined to power", s.downStrength(3), 0);
        s.setInput(2, 1);
        CHECK.due("16 joined to ground", s.downStrength(3), 5);
        s.setInput(2, 2);
        CHECK.due("14 joined to neither for sure", s.definiteStrength(3), 1);
        s.setInput(2, 1);
        CHECK.due("17 joined to ground", s.steadyValue(3), 0);
        s.setInput(2, 0);
        CHECK.due("18 a closed way to an input", s.vicinity(3), 0b1000);
        CHECK.due("14 joined to power", s.definiteStrength(3), 5);
    }

    private static void steadyValueChangesNothing() {
        SwitchLevelSimulator s = Circuits.row(2);
        CHECK.due("17 the first inverter", s.steadyValue(3), 1);
        CHECK.due("17 the second inverter still sees X", s.steadyValue(4), 2);
        CHECK.due("17 nothing changes", s.nodesWith(2), 0b11000);
        s.definiteStrength(3);
        s.upStrength(3);
        s.downStrength(3);
        CHECK.due("14 to 16 nothing changes", s.nodesWith(2), 0b11000);
    }

    private static void vicinity() {
        SwitchLevelSimulator s = new SwitchLevelSimulator();
        int gate = Circuits.input(s, 1);
        int between = Circuits.input(s, 0);
        int a = s.addStorage(1);
        int b = s.addStorage(1);
        int c = s.addStorage(1);
        int d = s.addStorage(1);
        s.addTransistor(Circuits.N, 1, gate, a, b);
        Circuits.wire(s, 1, b, between);
        Circuits.wire(s, 1, between, c);
        s.addTransistor(Circuits.P, 1, gate, c, d);
        CHECK.due("18 closed", s.vicinity(a), 0b001100);
        CHECK.due("18 closed, seen from the other end", s.vicinity(b), 0b001100);
        CHECK.due("18 not past an input, not through an open one", s.vicinity(c), 0b010000);
        CHECK.due("18 alone", s.vicinity(d), 0b100000);
        CHECK.due("18 an input node", s.vicinity(gate), 0);
        CHECK.due("18 an input node with neighbors", s.vicinity(between), 0);
        s.setInput(gate, 2);
        CHECK.due("18 unknown", s.vicinity(a), 0b001100);
        CHECK.due("18 unknown", s.vicinity(d), 0b110000);
        s.setInput(gate, 0);
        CHECK.due("18 open", s.vicinity(a), 0b000100);
        s.setFault(0, 2);
        CHECK.due("18 stuck closed", s.vicinity(a), 0b001100);
        s.setFault(3, 1);
        CHECK.due("18 stuck open", s.vicinity(c), 0b010000);
    }

    private static void wrongNodes() {
        SwitchLevelSimulator s = Circuits.rails();
        for (int node : new int[] {-1, -31, 2, 23, 24, 32, 33, Integer.MIN_VALUE, Integer.MAX_VALUE}) {
            CHECK.due("14 node " + node, s.definiteStrength(node), -1);
            CHECK.due("15 node " + node, s.upStrength(node), -1);
            CHECK.due("16 node " + node, s.downStrength(node), -1);
            CHECK.due("17 node " + node, s.steadyValue(node), -1);
            CHECK.due("18 node " + node, s.vicinity(node), -1);
        }
    }
}
