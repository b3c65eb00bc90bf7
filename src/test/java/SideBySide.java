/** The class and the literal model: every call goes to both, and both must answer the same. */
final class SideBySide {
    private final Check check;
    private final String run;
    private final SwitchLevelSimulator simulator = new SwitchLevelSimulator();
    private final LiteralModel model = new LiteralModel();
    private int calls = 0;

    SideBySide(Check check, String run) {
        this.check = check;
        this.run = run;
    }

    /** How many calls the object has had. */
    int calls() {
        return calls;
    }

    /** Known without a call of the object. */
    int nodes() {
        return model.nodeCount();
    }

    int transistors() {
        return model.transistorCount();
    }

    private int due(int got, int want, String method, int... arguments) {
        calls++;
        if (got != want) {
            StringBuilder call = new StringBuilder(run).append(", call ").append(calls).append(": ").append(method);
            for (int argument : arguments) {
                call.append(' ').append(argument);
            }
            check.due(call.toString(), got, want);
        } else {
            check.due(method, got, want);
        }
        return want;
    }

    int addInput() {
        return due(simulator.addInput(), model.addInput(), "addInput");
    }

    int addStorage(int size) {
        return due(simulator.addStorage(size), model.addStorage(size), "addStorage", size);
    }

    int addTransistor(int type, int strength, int gate, int one, int other) {
        return due(simulator.addTransistor(type, strength, gate, one, other),
                model.addTransistor(type, strength, gate, one, other), "addTransistor", type, strength, gate, one, other);
    }

    int nodeCount() {
        return due(simulator.nodeCount(), model.nodeCount(), "nodeCount");
    }

    int transistorCount() {
        return due(simulator.transistorCount(), model.transistorCount(), "transistorCount");
    }

    int inputs() {
        return due(simulator.inputs(), model.inputs(), "inputs");
    }

    int setInput(int node, int value) {
        return due(simulator.setInput(node, value), model.setInput(node, value), "setInput", node, value);
    }

    int setCharge(int node, int value) {
        return due(simulator.setCharge(node, value), model.setCharge(node, value), "setCharge", node, value);
    }

    int forget() {
        return due(simulator.forget(), model.forget(), "forget");
    }

    int value(int node) {
        return due(simulator.value(node), model.value(node), "value", node);
    }

    int nodesWith(int value) {
        return due(simulator.nodesWith(value), model.nodesWith(value), "nodesWith", value);
    }

    int switchState(int transistor) {
        return due(simulator.switchState(transistor), model.switchState(transistor), "switchState", transistor);
    }

    int definiteStrength(int node) {
        return due(simulator.definiteStrength(node), model.definiteStrength(node), "definiteStrength", node);
    }

    int upStrength(int node) {
        return due(simulator.upStrength(node), model.upStrength(node), "upStrength", node);
    }

    int downStrength(int node) {
        return due(simulator.downStrength(node), model.downStrength(node), "downStrength", node);
    }

    int steadyValue(int node) {
        return due(simulator.steadyValue(node), model.steadyValue(node), "steadyValue", node);
    }

    int vicinity(int node) {
        return due(simulator.vicinity(node), model.vicinity(node), "vicinity", node);
    }

    int step() {
        return due(simulator.step(), model.step(), "step");
    }

    int settle(int limit) {
        return due(simulator.settle(limit), model.settle(limit), "settle", limit);
    }

    int active() {
        return due(simulator.active(), model.active(), "active");
    }

    int period(int limit) {
        return due(simulator.period(limit), model.period(limit), "period", limit);
    }

    int setFault(int transistor, int fault) {
        return due(simulator.setFault(transistor, fault), model.setFault(transistor, fault), "setFault", transistor, fault);
    }

    int clearFaults() {
        return due(simulator.clearFaults(), model.clearFaults(), "clearFaults");
    }

    int detects(int transistor, int fault, int node, int limit) {
        return due(simulator.detects(transistor, fault, node, limit), model.detects(transistor, fault, node, limit),
                "detects", transistor, fault, node, limit);
    }

    int detectedFaults(int node, int limit) {
        return due(simulator.detectedFaults(node, limit), model.detectedFaults(node, limit), "detectedFaults", node, limit);
    }

    int save(int slot) {
        return due(simulator.save(slot), model.save(slot), "save", slot);
    }

    int restore(int slot) {
        return due(simulator.restore(slot), model.restore(slot), "restore", slot);
    }
}
