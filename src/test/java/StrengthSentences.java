import java.util.Random;

/** The Description's signal strengths and its steady state. */
final class StrengthSentences extends SentenceGroup {
    StrengthSentences(Sentences sentences) {
        super(sentences, Sentences.DESCRIPTION);
    }

    @Override
    void runAll() {
        titles();
        signalStrengths();
        neighbors();
        definiteStrength();
        upStrength();
        downStrength();
        smallestNumbers();
        steadyValue();
    }

    /** They open the Description's paragraphs, and say nothing of their own. */
    private void titles() {
        for (String title : new String[] {"CIRCUIT.", "SWITCH STATES.", "SIGNAL STRENGTHS.", "STEADY STATE.", "STEPS.", "VICINITIES."}) {
            say(title);
            due("is quoted", 0, 0);
        }
    }

    private void strengths(String what, SwitchLevelSimulator s, int node, int q, int u, int d) {
        due(what + ": q", s.definiteStrength(node), q);
        due(what + ": u", s.upStrength(node), u);
        due(what + ": d", s.downStrength(node), d);
    }

    private void signalStrengths() {
        say("Strengths of signals are numbers from 0 to 7.");
        SwitchLevelSimulator s = Circuits.rails();
        strengths("ground", s, GROUND, 7, 0, 7);
        strengths("power", s, POWER, 7, 7, 0);

        say("The source strength of a storage node is its size (1 to 3), that of an input node is 7.");
        for (int size = 1; size <= 3; size++) {
            strengths("size " + size, s, Circuits.storage(s, size, X), size, size, size);
        }
        strengths("an input node", s, Circuits.input(s, X), 7, 7, 7);

        say("The signal strength of a transistor is its strength plus 3 (4 to 6).");
        for (int strength = 1; strength <= 3; strength++) {
            int node = Circuits.storage(s, 3, 1);
            Circuits.wire(s, strength, GROUND, node);
            strengths("strength " + strength, s, node, strength + 3, 0, strength + 3);
        }

        say("The following numbers are defined for each node n, for given node values and the switch states that follow from them.");
        int gate = Circuits.input(s, 1);
        int node = Circuits.storage(s, 1, 0);
        s.addTransistor(N, 2, gate, node, POWER);
        strengths("closed", s, node, 5, 5, 0);
        s.setInput(gate, X);
        strengths("unknown", s, node, 1, 5, 1);
        s.setInput(gate, 0);
        strengths("open", s, node, 1, 0, 1);
        s.setFault(s.transistorCount() - 1, STUCK_CLOSED);
        strengths("stuck closed", s, node, 5, 5, 0);
    }

    private void neighbors() {
        say("A neighbor of n by a transistor is the other end of a transistor that has n as an end.");
        SwitchLevelSimulator s = Circuits.rails();
        int a = Circuits.storage(s, 1, 0);
        int b = Circuits.storage(s, 1, 0);
        int gate = Circuits.storage(s, 1, 1);
        s.addTransistor(N, 1, gate, a, POWER);
        s.addTransistor(N, 2, gate, POWER, b);
        strengths("one end", s, a, 4, 4, 0);
        strengths("the other end", s, b, 5, 5, 0);
        strengths("the gate is no neighbor", s, gate, 1, 1, 0);
        s = new SwitchLevelSimulator();
        int first = Circuits.storage(s, 1, 0);
        int power = Circuits.input(s, 1);
        int last = Circuits.storage(s, 1, 0);
        Circuits.wire(s, 1, power, last);
        strengths("node 0 without a transistor", s, first, 1, 0, 1);
        strengths("beside it", s, last, 4, 4, 0);
    }

    private void definiteStrength() {
        say("The definite strength q(n) of an input node is 7.");
        SwitchLevelSimulator s = Circuits.rails();
        int unknown = s.addInput();
        Circuits.wire(s, 1, GROUND, POWER);
        due("value 0", s.definiteStrength(GROUND), 7);
        due("value 1", s.definiteStrength(POWER), 7);
        due("value X", s.definiteStrength(unknown), 7);

        say("For a storage node n it is the greatest of: the size of n; and, for each neighbor m by a CLOSED transistor t, the smaller one of the signal strength of t and q(m).");
        for (int size = 1; size <= 3; size++) {
            for (int another = 1; another <= 3; another++) {
                s = new SwitchLevelSimulator();
                int a = Circuits.storage(s, size, 0);
                Circuits.wire(s, 3, a, Circuits.storage(s, another, 1));
                due("sizes " + size + " and " + another, s.definiteStrength(a), Math.max(size, another));
            }
        }
        for (int near = 1; near <= 3; near++) {
            for (int far = 1; far <= 3; far++) {
                s = Circuits.rails();
                int a = Circuits.storage(s, 3, X);
                int b = Circuits.storage(s, 1, X);
                Circuits.wire(s, far, POWER, b);
                Circuits.wire(s, near, b, a);
                due("through " + far + " and " + near, s.definiteStrength(a), Math.min(far, near) + 3);
                Circuits.wire(s, 2, a, GROUND);
                due("or through 2 alone", s.definiteStrength(a), Math.max(5, Math.min(far, near) + 3));
            }
        }
        s = Circuits.rails();
        int a = Circuits.storage(s, 2, 0);
        s.addTransistor(N, 3, s.addInput(), a, POWER);
        due("not by an UNKNOWN one", s.definiteStrength(a), 2);
        s.addTransistor(N, 3, GROUND, a, POWER);
        due("not by an OPEN one", s.definiteStrength(a), 2);
    }

    private void upStrength() {
        say("The up strength u(n) of an input node is 7 if its value is 1 or X, and 0 if its value is 0.");
        SwitchLevelSimulator s = Circuits.rails();
        Circuits.wire(s, 3, GROUND, POWER);
        due("1", s.upStrength(POWER), 7);
        due("X", s.upStrength(s.addInput()), 7);
        due("0", s.upStrength(GROUND), 0);

        say("For a storage node n let a be the greatest of: the size of n if its value is 1 or X, otherwise 0; and, for each neighbor m by a transistor t that is CLOSED or UNKNOWN, the smaller one of the signal strength of t and u(m).");
        for (int size = 1; size <= 3; size++) {
            due("charge 0", s.upStrength(Circuits.storage(s, size, 0)), 0);
            due("charge 1", s.upStrength(Circuits.storage(s, size, 1)), size);
            due("charge X", s.upStrength(Circuits.storage(s, size, X)), size);
        }
        for (int near = 1; near <= 3; near++) {
            for (int far = 1; far <= 3; far++) {
                waysUp(near, far);
            }
        }

        say("Then u(n) is a if a is at least q(n), otherwise 0.");
        for (int closed = 1; closed <= 3; closed++) {
            for (int unknown = 1; unknown <= 3; unknown++) {
                s = Circuits.rails();
                int node = Circuits.storage(s, 3, 1);
                Circuits.wire(s, closed, node, GROUND);
                s.addTransistor(P, unknown, s.addInput(), node, POWER);
                int up = unknown >= closed ? unknown + 3 : 0;
                strengths("a " + (unknown + 3), s, node, closed + 3, up, closed + 3);
            }
        }
        for (int size = 1; size <= 3; size++) {
            for (int another = 1; another <= 3; another++) {
                s = new SwitchLevelSimulator();
                int node = Circuits.storage(s, size, 1);
                Circuits.wire(s, 1, node, Circuits.storage(s, another, 0));
                due("a charge " + size + " beside " + another, s.upStrength(node), size >= another ? size : 0);
            }
        }
    }

    private void waysUp(int near, int far) {
        for (int gateValue = 0; gateValue <= X; gateValue++) {
            SwitchLevelSimulator s = Circuits.rails();
            int gate = Circuits.input(s, gateValue);
            int a = Circuits.storage(s, 1, 0);
            int b = Circuits.storage(s, 1, 0);
            s.addTransistor(N, far, gate, POWER, b);
            s.addTransistor(N, near, gate, b, a);
            due("through " + far + " and " + near + ", gate " + gateValue, s.upStrength(a),
                    gateValue == 0 ? 0 : Math.min(far, near) + 3);
        }
    }

    /** Every circuit once as it is and once with 0 and 1 changed for one another. */
    private void downStrength() {
        say("The down strength d(n) is defined in the same way as the up strength, with the value 0 in place of 1, and 1 in place of 0.");
        SwitchLevelSimulator s = Circuits.rails();
        due("an input 0", s.downStrength(GROUND), 7);
        due("an input X", s.downStrength(s.addInput()), 7);
        due("an input 1", s.downStrength(POWER), 0);
        for (int size = 1; size <= 3; size++) {
            due("charge 0", s.downStrength(Circuits.storage(s, size, 0)), size);
            due("charge 1", s.downStrength(Circuits.storage(s, size, 1)), 0);
            due("charge X", s.downStrength(Circuits.storage(s, size, X)), size);
        }
        for (int seed = 0; seed < 40; seed++) {
            SwitchLevelSimulator plain = anyCircuit(seed, false);
            SwitchLevelSimulator changed = anyCircuit(seed, true);
            for (int node = 0; node < 24; node++) {
                due("d against u, node " + node, plain.downStrength(node), changed.upStrength(node));
                due("u against d, node " + node, plain.upStrength(node), changed.downStrength(node));
                due("q against q, node " + node, plain.definiteStrength(node), changed.definiteStrength(node));
            }
        }
    }

    private static SwitchLevelSimulator anyCircuit(int seed, boolean changed) {
        Random random = new Random(seed);
        SwitchLevelSimulator s = new SwitchLevelSimulator();
        for (int node = 0; node < 24; node++) {
            int value = random.nextInt(3);
            int held = changed && value != X ? 1 - value : value;
            if (random.nextInt(4) == 0) {
                Circuits.input(s, held);
            } else {
                Circuits.storage(s, 1 + random.nextInt(3), held);
            }
        }
        int transistors = 10 + random.nextInt(31);
        for (int transistor = 0; transistor < transistors; transistor++) {
            int type = random.nextInt(3);
            int one = random.nextInt(24);
            s.addTransistor(changed && type != D ? 1 - type : type, 1 + random.nextInt(3), random.nextInt(24),
                    one, (one + 1 + random.nextInt(23)) % 24);
        }
        return s;
    }

    private void smallestNumbers() {
        say("The numbers q are the smallest ones that satisfy their equations; then, with these q, the numbers u and d are the smallest ones that satisfy theirs.");
        SwitchLevelSimulator s = new SwitchLevelSimulator();
        int a = Circuits.storage(s, 1, 0);
        int b = Circuits.storage(s, 2, 0);
        int c = Circuits.storage(s, 1, 0);
        Circuits.wire(s, 3, a, b);
        Circuits.wire(s, 3, b, c);
        Circuits.wire(s, 3, c, a);
        Circuits.wire(s, 2, a, b);
        for (int node = 0; node < 3; node++) {
            strengths("a ring that gives itself nothing", s, node, 2, 0, 2);
        }
        s = Circuits.rails();
        a = Circuits.storage(s, 1, 1);
        b = Circuits.storage(s, 1, 1);
        int gate = s.addInput();
        s.addTransistor(N, 3, gate, a, b);
        s.addTransistor(P, 3, gate, a, b);
        Circuits.wire(s, 1, a, GROUND);
        Circuits.wire(s, 1, b, GROUND);
        strengths("two that might hold each other up", s, a, 4, 0, 4);
        strengths("two that might hold each other up", s, b, 4, 0, 4);

        say("(First the numbers q are found by starting with 0 for every storage node and replacing the numbers by the right sides of their equations until nothing changes. When the numbers q are final, u and d are found in the same way.)");
        s = Circuits.rails();
        for (int node = 2; node < 24; node++) {
            Circuits.storage(s, 3, 1);
        }
        Circuits.wire(s, 2, GROUND, 2);
        for (int node = 2; node < 23; node++) {
            Circuits.wire(s, 3, node, node + 1);
        }
        for (int node = 2; node < 24; node++) {
            strengths("the charges are let in nowhere, since q reaches the last node", s, node, 5, 0, 5);
        }
    }

    private void steadyValue() {
        say("The steady value of a storage node n is 1 if d(n) is 0, otherwise 0 if u(n) is 0, otherwise X.");
        for (int toGround = 0; toGround <= 3; toGround++) {
            for (int toPower = 0; toPower <= 3; toPower++) {
                SwitchLevelSimulator s = Circuits.rails();
                int node = Circuits.storage(s, 1, X);
                joinIfAny(s, toGround, node, GROUND);
                joinIfAny(s, toPower, node, POWER);
                int steady = toPower == toGround ? X : toPower > toGround ? 1 : 0;
                due("0 by " + toGround + ", 1 by " + toPower, s.steadyValue(node), steady);
            }
        }

        say("(u(n) and d(n) are never both 0.)");
        for (int seed = 100; seed < 160; seed++) {
            SwitchLevelSimulator s = anyCircuit(seed, false);
            for (int node = 0; node < 24; node++) {
                due("node " + node, s.upStrength(node) > 0 || s.downStrength(node) > 0 ? 1 : 0, 1);
            }
        }

        say("The steady value of an input node is its value.");
        SwitchLevelSimulator s = Circuits.rails();
        int unknown = s.addInput();
        Circuits.wire(s, 3, GROUND, POWER);
        Circuits.wire(s, 3, POWER, unknown);
        due("0", s.steadyValue(GROUND), 0);
        due("1", s.steadyValue(POWER), 1);
        due("X", s.steadyValue(unknown), X);
    }

    private static void joinIfAny(SwitchLevelSimulator s, int strength, int node, int input) {
        if (strength > 0) {
            Circuits.wire(s, strength, node, input);
        }
    }
}
