/** The five examples of the document's Description. */
public final class ExamplesTest {
    private static final Check CHECK = new Check();

    public static void main(String[] args) {
        inverter();
        chargeSharing();
        transistorThatOpensItself();
        detectedFault();
        errors();
        CHECK.finish();
    }

    private static void inverter() {
        SwitchLevelSimulator s = new SwitchLevelSimulator();
        CHECK.due("1 addInput()", s.addInput(), 0);
        CHECK.due("1 addInput()", s.addInput(), 1);
        CHECK.due("1 setInput(0, 0)", s.setInput(0, 0), 2);
        CHECK.due("1 setInput(1, 1)", s.setInput(1, 1), 2);
        CHECK.due("1 addStorage(1)", s.addStorage(1), 2);
        CHECK.due("1 addTransistor(0, 2, 1, 2, 0)", s.addTransistor(0, 2, 1, 2, 0), 0);
        CHECK.due("1 addTransistor(1, 2, 1, 2, 1)", s.addTransistor(1, 2, 1, 2, 1), 1);
        CHECK.due("1 settle(10)", s.settle(10), 1);
        CHECK.due("1 value(2)", s.value(2), 0);
        CHECK.due("1 definiteStrength(2)", s.definiteStrength(2), 5);
        CHECK.due("1 upStrength(2)", s.upStrength(2), 0);
        CHECK.due("1 downStrength(2)", s.downStrength(2), 5);
    }

    private static void chargeSharing() {
        SwitchLevelSimulator s = new SwitchLevelSimulator();
        CHECK.due("2 addInput()", s.addInput(), 0);
        CHECK.due("2 setInput(0, 1)", s.setInput(0, 1), 2);
        CHECK.due("2 addStorage(3)", s.addStorage(3), 1);
        CHECK.due("2 addStorage(1)", s.addStorage(1), 2);
        CHECK.due("2 setCharge(1, 1)", s.setCharge(1, 1), 2);
        CHECK.due("2 setCharge(2, 0)", s.setCharge(2, 0), 2);
        CHECK.due("2 addTransistor(0, 1, 0, 1, 2)", s.addTransistor(0, 1, 0, 1, 2), 0);
        CHECK.due("2 definiteStrength(2)", s.definiteStrength(2), 3);
        CHECK.due("2 steadyValue(1)", s.steadyValue(1), 1);
        CHECK.due("2 steadyValue(2)", s.steadyValue(2), 1);
        CHECK.due("2 setInput(0, 2)", s.setInput(0, 2), 1);
        CHECK.due("2 steadyValue(2)", s.steadyValue(2), 2);
    }

    private static void transistorThatOpensItself() {
        SwitchLevelSimulator s = new SwitchLevelSimulator();
        CHECK.due("3 addInput()", s.addInput(), 0);
        CHECK.due("3 setInput(0, 0)", s.setInput(0, 0), 2);
        CHECK.due("3 addStorage(1)", s.addStorage(1), 1);
        CHECK.due("3 addTransistor(0, 1, 1, 1, 0)", s.addTransistor(0, 1, 1, 1, 0), 0);
        CHECK.due("3 setCharge(1, 1)", s.setCharge(1, 1), 2);
        CHECK.due("3 settle(5)", s.settle(5), 1);
        CHECK.due("3 value(1)", s.value(1), 0);
        CHECK.due("3 period(5)", s.period(5), 1);
    }

    private static void detectedFault() {
        SwitchLevelSimulator s = new SwitchLevelSimulator();
        CHECK.due("4 addInput()", s.addInput(), 0);
        CHECK.due("4 setInput(0, 1)", s.setInput(0, 1), 2);
        CHECK.due("4 addStorage(1)", s.addStorage(1), 1);
        CHECK.due("4 addTransistor(2, 2, 0, 1, 0)", s.addTransistor(2, 2, 0, 1, 0), 0);
        CHECK.due("4 detects(0, 1, 1, 5)", s.detects(0, 1, 1, 5), 0);
        CHECK.due("4 setCharge(1, 0)", s.setCharge(1, 0), 2);
        CHECK.due("4 detects(0, 1, 1, 5)", s.detects(0, 1, 1, 5), 1);
        CHECK.due("4 detectedFaults(1, 5)", s.detectedFaults(1, 5), 1);
    }

    private static void errors() {
        SwitchLevelSimulator s = new SwitchLevelSimulator();
        CHECK.due("5 addInput()", s.addInput(), 0);
        CHECK.due("5 addTransistor(5, 9, 0, 0, 0)", s.addTransistor(5, 9, 0, 0, 0), -4);
        CHECK.due("5 addTransistor(5, 9, 0, 0, 1)", s.addTransistor(5, 9, 0, 0, 1), -1);
        CHECK.due("5 setCharge(0, 7)", s.setCharge(0, 7), -5);
        CHECK.due("5 setInput(0, 7)", s.setInput(0, 7), -3);
    }
}
