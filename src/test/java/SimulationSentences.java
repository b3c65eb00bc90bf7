/** Promises 19 to 22, sentence by sentence. */
final class SimulationSentences extends SentenceGroup {
    private static final int[] WRONG_LIMITS = {0, 101, -1, LEAST, MOST};

    SimulationSentences(Sentences sentences) {
        super(sentences, 19);
    }

    @Override
    void runAll() {
        step();
        settle();
        settleAtItsLimits();
        active();
        period();
        periodAtItsLimits();
    }

    private void step() {
        promise(19);
        say("Makes one step");
        SwitchLevelSimulator s = Circuits.row(3);
        s.step();
        same("one and no more", values(s), new int[] {0b000101, 0b001010, 0b110000});

        say("returns the set of nodes whose values changed.");
        due("the second inverter", s.step(), 0b010000);
        due("the third inverter", s.step(), 0b100000);
        due("none", s.step(), 0);
        due("without nodes", new SwitchLevelSimulator().step(), 0);
        s = new SwitchLevelSimulator();
        Circuits.input(s, 0);
        for (int node = 1; node < 24; node++) {
            Circuits.wire(s, 1, Circuits.storage(s, 1, 1), 0);
        }
        due("from 1 to 0", s.step(), 0xFFFFFE);
        s.setInput(0, X);
        due("from 0 to X", s.step(), 0xFFFFFE);
        s.setInput(0, 1);
        due("from X to 1", s.step(), 0xFFFFFE);
        s.setInput(0, X);
        due("from 1 to X", s.step(), 0xFFFFFE);
    }

    private void settle() {
        promise(20);
        say("Settles the circuit within a limit.");
        SwitchLevelSimulator s = Circuits.row(4);
        s.settle(100);
        same("all values are due", values(s), new int[] {0b1010101, 0b0101010, 0});

        say("If the circuit is not stable after as many steps as the limit, the values that it has then stay.");
        for (int limit = 1; limit <= 3; limit++) {
            s = Circuits.row(4);
            due("limit " + limit, s.settle(limit), UNSTABLE);
            due("limit " + limit, s.nodesWith(X), 0b1111000 & -1 << 3 + limit);
        }
        s = Circuits.ring();
        s.settle(1);
        due("a ring after one step", s.nodesWith(1), 0b01110);

        say("`limit`: 1 to 100");
        due("limit 1", Circuits.row(1).settle(1), 1);
        due("limit 100", Circuits.row(1).settle(100), 1);

        say("Returns the number of steps made until the circuit was stable (0 if it was stable already)");
        for (int steps = 1; steps <= 20; steps++) {
            s = Circuits.row(steps);
            due(steps + " steps", s.settle(100), steps);
            due("stable already", s.settle(100), 0);
            due("stable already, limit 1", s.settle(1), 0);
        }
        due("without nodes", new SwitchLevelSimulator().settle(100), 0);
    }

    private void settleAtItsLimits() {
        SwitchLevelSimulator s = Circuits.restingAfter101Steps();
        s.step();
        due("100 steps, as many as the limit", s.settle(100), 100);
        due("then it is stable", s.active(), 0);

        say("OUT_OF_RANGE if limit is out of range (checked first)");
        for (int limit : WRONG_LIMITS) {
            due("stable, limit " + limit, new SwitchLevelSimulator().settle(limit), OUT_OF_RANGE);
            s = Circuits.ring();
            due("a ring, limit " + limit, s.settle(limit), OUT_OF_RANGE);
            due("no step is made", s.nodesWith(1), 0b01010);
        }

        say("UNSTABLE if it is not stable after limit steps.");
        s = Circuits.restingAfter101Steps();
        due("101 steps are needed", s.settle(100), UNSTABLE);
        due("one was left", s.settle(1), 1);
        s = Circuits.restingAfter101Steps();
        s.step();
        due("100 steps are needed", s.settle(99), UNSTABLE);
        due("one was left", s.settle(1), 1);
        due("2 steps are needed", Circuits.row(2).settle(1), UNSTABLE);
        due("a ring", Circuits.ring().settle(100), UNSTABLE);
    }

    private void active() {
        promise(21);
        say("Returns the set of nodes that a step would change");
        SwitchLevelSimulator s = Circuits.restingAfter101Steps();
        for (int step = 0; step < 101; step++) {
            int changes = s.active();
            due("step " + step, s.step(), changes);
        }

        say("nothing changes.");
        s = Circuits.ring();
        s.setFault(0, STUCK_CLOSED);
        int[] before = picture(s);
        due("a ring", s.active(), 0b00100);
        same("a ring", picture(s), before);
        due("and again", s.active(), 0b00100);

        say("It is 0 if the circuit is stable.");
        due("without nodes", new SwitchLevelSimulator().active(), 0);
        s = Circuits.row(3);
        due("not yet", s.active(), 0b001000);
        s.settle(2);
        due("not yet", s.active(), 0b100000);
        s.settle(1);
        due("stable", s.active(), 0);
    }

    private void period() {
        promise(22);
        say("Looks for an oscillation, without changing anything.");
        SwitchLevelSimulator s = Circuits.ring();
        s.setFault(5, STUCK_CLOSED);
        s.setFault(5, NO_FAULT);
        s.save(0);
        int[] before = picture(s);
        due("found", s.period(6), 6);
        due("not found", s.period(5), NONE);
        same("nothing changes", picture(s), before);
        due("slot 0 stays", s.restore(0), 5);
        same("slot 0 stays", picture(s), before);

        say("The values of all nodes after k steps from now are compared with the current values, for k = 1, 2, ... up to the limit.");
        s = Circuits.rails();
        int a = Circuits.storage(s, 1, 0);
        int b = Circuits.storage(s, 1, 0);
        Circuits.inverter(s, 1, a, a);
        due("k = 1 is not the same", s.period(1), NONE);
        due("k = 2 is", s.period(2), 2);
        Circuits.wire(s, 1, b, POWER);
        // From the next step on the values repeat each other, but never the current ones.
        due("one of all nodes does not come back", s.period(100), NONE);
        s.step();
        due("now they do", s.period(100), 2);
        s = Circuits.ring();
        s.setCharge(2, 1);
        s.setCharge(3, 1);
        s.setCharge(4, 1);
        due("all three at once", s.period(100), 2);
        s.setCharge(2, X);
        due("an X goes round, too", s.period(100), 6);

        say("`limit`: 1 to 100");
        due("limit 1", Circuits.rails().period(1), 1);
        due("limit 100", Circuits.rails().period(100), 1);
    }

    private void periodAtItsLimits() {
        say("Returns the smallest k for which all values are the same as now");
        due("stable, so with the first step", Circuits.rails().period(100), 1);
        due("without nodes", new SwitchLevelSimulator().period(100), 1);
        due("6, though 12 and 18 are in reach", Circuits.ring().period(100), 6);
        due("100", Circuits.swingingBy100Steps().period(100), 100);

        say("OUT_OF_RANGE if limit is out of range (checked first)");
        for (int limit : WRONG_LIMITS) {
            due("stable, limit " + limit, new SwitchLevelSimulator().period(limit), OUT_OF_RANGE);
            due("none, limit " + limit, Circuits.row(2).period(limit), OUT_OF_RANGE);
        }
        due("110, limit 101", Circuits.swingingBy110Steps().period(101), OUT_OF_RANGE);

        say("NONE if there is none up to the limit.");
        due("6, limit 5", Circuits.ring().period(5), NONE);
        due("100, limit 99", Circuits.swingingBy100Steps().period(99), NONE);
        due("110, limit 100", Circuits.swingingBy110Steps().period(100), NONE);
        due("it comes to rest elsewhere", Circuits.row(2).period(100), NONE);
    }
}
