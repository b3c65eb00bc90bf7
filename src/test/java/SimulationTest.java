/** Promises 19 to 22: steps, settling and oscillation. */
public final class SimulationTest {
    private static final Check CHECK = new Check();
    private static final int[] WRONG_LIMITS = {0, -1, 101, Integer.MIN_VALUE, Integer.MAX_VALUE};

    public static void main(String[] args) {
        stepIsSimultaneous();
        stepTellsEveryChange();
        settleCountsItsSteps();
        settleStopsAtTheLimit();
        settleOnARing();
        active();
        periodOfARing();
        periodOfOneInverter();
        periodWithoutReturn();
        wrongLimits();
        CHECK.finish();
    }

    private static void stepIsSimultaneous() {
        SwitchLevelSimulator s = Circuits.row(3);
        CHECK.due("19 first", s.step(), 0b001000);
        CHECK.due("19 second", s.step(), 0b010000);
        CHECK.due("19 third", s.step(), 0b100000);
        CHECK.due("19 stable", s.step(), 0);
        CHECK.due("12 ones", s.nodesWith(1), 0b101010);
        s.setInput(2, 1);
        s.setCharge(4, 1);
        CHECK.due("19 all that is due changes at once", s.step(), 0b111000);
        CHECK.due("12 ones", s.nodesWith(1), 0b000110);
        CHECK.due("19 and swings on", s.step(), 0b110000);
        CHECK.due("12 ones", s.nodesWith(1), 0b110110);
        CHECK.due("19 and comes to rest", s.step(), 0b100000);
        CHECK.due("19 at rest", s.step(), 0);
    }

    private static void stepTellsEveryChange() {
        SwitchLevelSimulator s = new SwitchLevelSimulator();
        Circuits.input(s, 0);
        for (int value = 0; value <= 2; value++) {
            Circuits.wire(s, 1, 0, Circuits.storage(s, 1, value));
        }
        CHECK.due("19 to 0", s.step(), 0b1100);
        s.setInput(0, 2);
        CHECK.due("19 from 0 to X", s.step(), 0b1110);
        s.setInput(0, 1);
        CHECK.due("19 from X to 1", s.step(), 0b1110);
        s.setInput(0, 2);
        CHECK.due("19 from 1 to X", s.step(), 0b1110);
        CHECK.due("12 input nodes keep their values", s.nodesWith(2), 0b1111);
        s.setInput(0, 0);
        CHECK.due("19 from X to 0", s.step(), 0b1110);
        s.setInput(0, 1);
        CHECK.due("19 from 0 to 1", s.step(), 0b1110);
        s.setInput(0, 0);
        CHECK.due("19 from 1 to 0", s.step(), 0b1110);
    }

    private static void settleCountsItsSteps() {
        SwitchLevelSimulator s = Circuits.row(5);
        CHECK.due("20 as many steps as the limit", s.settle(5), 5);
        CHECK.due("20 stable already", s.settle(1), 0);
        CHECK.due("20 stable already", s.settle(100), 0);
        CHECK.due("12 ones", s.nodesWith(1), 0b10101010);
        s.setInput(2, 1);
        CHECK.due("20 fewer steps than the limit", s.settle(100), 5);
        CHECK.due("12 ones", s.nodesWith(1), 0b01010110);
    }

    private static void settleStopsAtTheLimit() {
        SwitchLevelSimulator s = Circuits.row(5);
        CHECK.due("20 one step too few", s.settle(4), -7);
        CHECK.due("12 the values after four steps stay", s.nodesWith(2), 0b10000000);
        CHECK.due("20 the last step", s.settle(1), 1);
        s.setInput(2, 1);
        CHECK.due("20 limit 1", s.settle(1), -7);
        CHECK.due("12 the values after one step stay", s.nodesWith(1), 0b10100110);
        CHECK.due("20 the rest", s.settle(4), 4);
    }

    private static void settleOnARing() {
        SwitchLevelSimulator s = Circuits.ring();
        SwitchLevelSimulator byHand = Circuits.ring();
        for (int limit : new int[] {1, 2, 5, 99, 100}) {
            CHECK.due("20 a ring with limit " + limit, s.settle(limit), -7);
            for (int i = 0; i < limit; i++) {
                byHand.step();
            }
            CHECK.due("20 as many steps as the limit", s.nodesWith(1), byHand.nodesWith(1));
            CHECK.due("20 as many steps as the limit", s.nodesWith(0), byHand.nodesWith(0));
        }
        s.forget();
        CHECK.due("20 a ring of X rests", s.settle(100), 0);
    }

    private static void active() {
        SwitchLevelSimulator s = Circuits.row(3);
        CHECK.due("21 what a step would change", s.active(), 0b001000);
        CHECK.due("21 nothing changes", s.active(), 0b001000);
        CHECK.due("21 nothing changes", s.nodesWith(2), 0b111000);
        CHECK.due("19 the step", s.step(), 0b001000);
        s.settle(10);
        CHECK.due("21 stable", s.active(), 0);
        s.setInput(2, 1);
        s.setCharge(4, 1);
        CHECK.due("21 several", s.active(), 0b111000);
        s.setInput(2, 2);
        s.setCharge(4, 0);
        CHECK.due("21 from 1 to X", s.active(), 0b001000);
    }

    private static void periodOfARing() {
        SwitchLevelSimulator s = Circuits.ring();
        CHECK.due("22 limit below the period", s.period(5), -8);
        CHECK.due("22 limit at the period", s.period(6), 6);
        CHECK.due("22 limit above the period", s.period(100), 6);
        CHECK.due("22 nothing changes", s.nodesWith(1), 0b01010);
        CHECK.due("22 nothing changes", s.nodesWith(0), 0b10101);
        s.forget();
        CHECK.due("22 stable", s.period(1), 1);
    }

    private static void periodOfOneInverter() {
        SwitchLevelSimulator s = Circuits.rails();
        int a = Circuits.storage(s, 1, 0);
        Circuits.inverter(s, 1, a, a);
        CHECK.due("22 too low a limit", s.period(1), -8);
        CHECK.due("22 to and fro", s.period(2), 2);
        CHECK.due("22 to and fro", s.period(100), 2);
        CHECK.due("22 nothing changes", s.value(a), 0);
    }

    private static void periodWithoutReturn() {
        SwitchLevelSimulator s = Circuits.row(3);
        CHECK.due("22 a state that does not come back", s.period(100), -8);
        CHECK.due("22 nothing changes", s.nodesWith(2), 0b111000);
        s.setFault(0, 2);
        s.setFault(1, 1);
        CHECK.due("22 with faults", s.period(100), -8);
        CHECK.due("22 the faults stay", s.clearFaults(), 2);
        CHECK.due("20 settles", s.settle(3), 3);
        CHECK.due("22 stable with a limit of 100", s.period(100), 1);
    }

    private static void wrongLimits() {
        SwitchLevelSimulator s = Circuits.row(1);
        for (int limit : WRONG_LIMITS) {
            CHECK.due("20 limit " + limit, s.settle(limit), -3);
            CHECK.due("22 limit " + limit, s.period(limit), -3);
        }
        CHECK.due("20 a wrong limit changes nothing", s.value(3), 2);
    }
}
