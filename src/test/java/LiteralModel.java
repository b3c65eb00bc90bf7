import java.util.ArrayList;
import java.util.Arrays;
import java.util.List;

/**
 * The document once more, word for word and without any thought of speed: numbers instead of sets,
 * and every equation replaced by its right side until nothing changes.
 */
final class LiteralModel {
    private static final class Node {
        final boolean input;
        final int size;
        int value = 2;

        Node(boolean input, int size) {
            this.input = input;
            this.size = size;
        }
    }

    private static final class Transistor {
        final int type, strength, gate, one, other;
        int fault = 0;

        Transistor(int type, int strength, int gate, int one, int other) {
            this.type = type;
            this.strength = strength;
            this.gate = gate;
            this.one = one;
            this.other = other;
        }
    }

    private List<Node> nodes = new ArrayList<>();
    private List<Transistor> transistors = new ArrayList<>();
    private final LiteralModel[] saved = new LiteralModel[2];

    private LiteralModel copy() {
        LiteralModel copy = new LiteralModel();
        copy.take(this);
        return copy;
    }

    private void take(LiteralModel source) {
        nodes = new ArrayList<>();
        for (Node n : source.nodes) {
            Node m = new Node(n.input, n.size);
            m.value = n.value;
            nodes.add(m);
        }
        transistors = new ArrayList<>();
        for (Transistor t : source.transistors) {
            Transistor u = new Transistor(t.type, t.strength, t.gate, t.one, t.other);
            u.fault = t.fault;
            transistors.add(u);
        }
    }

    private boolean noNode(int node) {
        return node < 0 || node >= nodes.size();
    }

    private boolean noTransistor(int transistor) {
        return transistor < 0 || transistor >= transistors.size();
    }

    int addInput() {
        if (nodes.size() == 24) return -6;
        nodes.add(new Node(true, 7));
        return nodes.size() - 1;
    }

    int addStorage(int size) {
        if (size < 1 || size > 3) return -3;
        if (nodes.size() == 24) return -6;
        nodes.add(new Node(false, size));
        return nodes.size() - 1;
    }

    int addTransistor(int type, int strength, int gate, int one, int other) {
        if (noNode(gate) || noNode(one) || noNode(other)) return -1;
        if (one == other) return -4;
        if (type < 0 || type > 2 || strength < 1 || strength > 3) return -3;
        if (transistors.size() == 40) return -6;
        transistors.add(new Transistor(type, strength, gate, one, other));
        return transistors.size() - 1;
    }

    int nodeCount() {
        return nodes.size();
    }

    int transistorCount() {
        return transistors.size();
    }

    int inputs() {
        int set = 0;
        for (int n = 0; n < nodes.size(); n++) if (nodes.get(n).input) set |= 1 << n;
        return set;
    }

    int setInput(int node, int value) {
        if (noNode(node)) return -1;
        if (!nodes.get(node).input) return -5;
        if (value < 0 || value > 2) return -3;
        int previous = nodes.get(node).value;
        nodes.get(node).value = value;
        return previous;
    }

    int setCharge(int node, int value) {
        if (noNode(node)) return -1;
        if (nodes.get(node).input) return -5;
        if (value < 0 || value > 2) return -3;
        int previous = nodes.get(node).value;
        nodes.get(node).value = value;
        return previous;
    }

    int forget() {
        int count = 0;
        for (Node n : nodes) {
            if (!n.input && n.value != 2) {
                n.value = 2;
                count++;
            }
        }
        return count;
    }

    int value(int node) {
        return noNode(node) ? -1 : nodes.get(node).value;
    }

    int nodesWith(int value) {
        if (value < 0 || value > 2) return -3;
        int set = 0;
        for (int n = 0; n < nodes.size(); n++) if (nodes.get(n).value == value) set |= 1 << n;
        return set;
    }

    int switchState(int transistor) {
        if (noTransistor(transistor)) return -2;
        Transistor t = transistors.get(transistor);
        if (t.fault == 1) return 0;
        if (t.fault == 2) return 1;
        if (t.type == 2) return 1;
        int gate = nodes.get(t.gate).value;
        if (gate == 2) return 2;
        if (t.type == 0) return gate == 1 ? 1 : 0;
        return gate == 0 ? 1 : 0;
    }

    private int[] switchStates() {
        int[] states = new int[transistors.size()];
        for (int i = 0; i < states.length; i++) states[i] = switchState(i);
        return states;
    }

    private int[] definiteStrengths() {
        int[] states = switchStates();
        int[] q = new int[nodes.size()];
        for (int n = 0; n < q.length; n++) q[n] = nodes.get(n).input ? 7 : 0;
        while (true) {
            int[] next = q.clone();
            for (int n = 0; n < q.length; n++) {
                if (nodes.get(n).input) continue;
                int most = nodes.get(n).size;
                for (int i = 0; i < transistors.size(); i++) {
                    if (states[i] != 1) continue;
                    Transistor t = transistors.get(i);
                    if (t.one != n && t.other != n) continue;
                    int m = t.one == n ? t.other : t.one;
                    most = Math.max(most, Math.min(t.strength + 3, q[m]));
                }
                next[n] = most;
            }
            if (Arrays.equals(next, q)) return q;
            q = next;
        }
    }

    /** The up strengths if the opposite value is 0, the down strengths if it is 1. */
    private int[] strengthsAgainst(int opposite) {
        int[] states = switchStates();
        int[] q = definiteStrengths();
        int[] u = new int[nodes.size()];
        for (int n = 0; n < u.length; n++) u[n] = nodes.get(n).input && nodes.get(n).value != opposite ? 7 : 0;
        while (true) {
            int[] next = u.clone();
            for (int n = 0; n < u.length; n++) {
                if (nodes.get(n).input) continue;
                int a = nodes.get(n).value != opposite ? nodes.get(n).size : 0;
                for (int i = 0; i < transistors.size(); i++) {
                    if (states[i] == 0) continue;
                    Transistor t = transistors.get(i);
                    if (t.one != n && t.other != n) continue;
                    int m = t.one == n ? t.other : t.one;
                    a = Math.max(a, Math.min(t.strength + 3, u[m]));
                }
                next[n] = a >= q[n] ? a : 0;
            }
            if (Arrays.equals(next, u)) return u;
            u = next;
        }
    }

    int definiteStrength(int node) {
        return noNode(node) ? -1 : definiteStrengths()[node];
    }

    int upStrength(int node) {
        return noNode(node) ? -1 : strengthsAgainst(0)[node];
    }

    int downStrength(int node) {
        return noNode(node) ? -1 : strengthsAgainst(1)[node];
    }

    private int[] steadyValues() {
        int[] u = strengthsAgainst(0);
        int[] d = strengthsAgainst(1);
        int[] values = new int[nodes.size()];
        for (int n = 0; n < values.length; n++) {
            if (nodes.get(n).input) values[n] = nodes.get(n).value;
            else values[n] = d[n] == 0 ? 1 : u[n] == 0 ? 0 : 2;
        }
        return values;
    }

    int steadyValue(int node) {
        return noNode(node) ? -1 : steadyValues()[node];
    }

    int vicinity(int node) {
        if (noNode(node)) return -1;
        if (nodes.get(node).input) return 0;
        boolean[] in = new boolean[nodes.size()];
        in[node] = true;
        for (int round = 0; round < nodes.size(); round++) {
            for (int i = 0; i < transistors.size(); i++) {
                Transistor t = transistors.get(i);
                if (switchState(i) == 0 || nodes.get(t.one).input || nodes.get(t.other).input) continue;
                if (in[t.one] || in[t.other]) in[t.one] = in[t.other] = true;
            }
        }
        int set = 0;
        for (int n = 0; n < in.length; n++) if (in[n]) set |= 1 << n;
        return set;
    }

    int step() {
        int[] values = steadyValues();
        int set = 0;
        for (int n = 0; n < values.length; n++) {
            if (nodes.get(n).value != values[n]) set |= 1 << n;
            nodes.get(n).value = values[n];
        }
        return set;
    }

    int settle(int limit) {
        if (limit < 1 || limit > 100) return -3;
        int steps = 0;
        while (active() != 0) {
            if (steps == limit) return -7;
            step();
            steps++;
        }
        return steps;
    }

    int active() {
        return copy().step();
    }

    int period(int limit) {
        if (limit < 1 || limit > 100) return -3;
        LiteralModel ahead = copy();
        for (int k = 1; k <= limit; k++) {
            ahead.step();
            boolean same = true;
            for (int n = 0; n < nodes.size(); n++) same &= ahead.value(n) == value(n);
            if (same) return k;
        }
        return -8;
    }

    int setFault(int transistor, int fault) {
        if (noTransistor(transistor)) return -2;
        if (fault < 0 || fault > 2) return -3;
        int previous = transistors.get(transistor).fault;
        transistors.get(transistor).fault = fault;
        return previous;
    }

    int clearFaults() {
        int count = 0;
        for (Transistor t : transistors) {
            if (t.fault != 0) count++;
            t.fault = 0;
        }
        return count;
    }

    int detects(int transistor, int fault, int node, int limit) {
        if (noTransistor(transistor)) return -2;
        if (noNode(node)) return -1;
        if (fault < 1 || fault > 2 || limit < 1 || limit > 100) return -3;
        LiteralModel first = copy();
        LiteralModel second = copy();
        second.setFault(transistor, fault);
        if (first.settle(limit) == -7 || second.settle(limit) == -7) return 0;
        int a = first.value(node);
        int b = second.value(node);
        return a == 0 && b == 1 || a == 1 && b == 0 ? 1 : 0;
    }

    int detectedFaults(int node, int limit) {
        if (noNode(node)) return -1;
        if (limit < 1 || limit > 100) return -3;
        int count = 0;
        for (int t = 0; t < transistors.size(); t++) {
            for (int fault = 1; fault <= 2; fault++) count += detects(t, fault, node, limit);
        }
        return count;
    }

    int save(int slot) {
        if (slot < 0 || slot > 1) return -3;
        saved[slot] = copy();
        return nodes.size();
    }

    int restore(int slot) {
        if (slot < 0 || slot > 1) return -3;
        if (saved[slot] == null) return -9;
        take(saved[slot]);
        return nodes.size();
    }
}
