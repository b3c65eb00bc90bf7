/** What the groups of sentence tests share: the codes as the document gives them, and the quoting. */
abstract class SentenceGroup {
    static final int NO_SUCH_NODE = -1, NO_SUCH_TRANSISTOR = -2, OUT_OF_RANGE = -3, SAME_NODE = -4, WRONG_NODE = -5;
    static final int FULL = -6, UNSTABLE = -7, NONE = -8, NOT_SAVED = -9;
    static final int X = 2, N = 0, P = 1, D = 2;
    static final int OPEN = 0, CLOSED = 1, UNKNOWN = 2;
    static final int NO_FAULT = 0, STUCK_OPEN = 1, STUCK_CLOSED = 2;
    static final int GROUND = 0, POWER = 1;
    static final int LEAST = Integer.MIN_VALUE, MOST = Integer.MAX_VALUE;

    private final Sentences sentences;
    private int promise;

    SentenceGroup(Sentences sentences, int promise) {
        this.sentences = sentences;
        this.promise = promise;
    }

    abstract void runAll();

    final void promise(int number) {
        promise = number;
    }

    final void say(String words) {
        sentences.say(promise, words);
    }

    final void due(String what, long got, long want) {
        sentences.due(what, got, want);
    }

    final void same(String what, int[] got, int[] want) {
        sentences.same(what, got, want);
    }

    /** The sets of the nodes with 0, with 1 and with X. */
    static int[] values(SwitchLevelSimulator s) {
        return new int[] {s.nodesWith(0), s.nodesWith(1), s.nodesWith(X)};
    }

    /** All that can be seen of a circuit without a change; at most some 170 calls. */
    static int[] picture(SwitchLevelSimulator s) {
        int nodes = s.nodeCount();
        int transistors = s.transistorCount();
        int[] seen = new int[6 + nodes + 2 * transistors];
        seen[0] = nodes;
        seen[1] = transistors;
        seen[2] = s.inputs();
        System.arraycopy(values(s), 0, seen, 3, 3);
        int at = 6;
        for (int node = 0; node < nodes; node++) {
            seen[at++] = s.definiteStrength(node);
        }
        for (int transistor = 0; transistor < transistors; transistor++) {
            seen[at++] = s.switchState(transistor);
            int fault = s.setFault(transistor, NO_FAULT);
            s.setFault(transistor, fault);
            seen[at++] = fault;
        }
        return seen;
    }
}
