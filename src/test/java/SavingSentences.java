/** Promises 27 and 28, sentence by sentence. */
final class SavingSentences extends SentenceGroup {
    private static final int[] WRONG_SLOTS = {-1, 2, LEAST, MOST};

    SavingSentences(Sentences sentences) {
        super(sentences, 27);
    }

    @Override
    void runAll() {
        save();
        restore();
    }

    /** All 24 nodes and 40 transistors, of every kind, with all values and faults. */
    private static SwitchLevelSimulator full() {
        SwitchLevelSimulator s = new SwitchLevelSimulator();
        for (int node = 0; node < 24; node++) {
            if (node % 4 == 0) {
                Circuits.input(s, node / 4 % 3);
            } else {
                Circuits.storage(s, node % 3 + 1, node / 3 % 3);
            }
        }
        for (int transistor = 0; transistor < 40; transistor++) {
            s.addTransistor(transistor % 3, transistor % 3 + 1, transistor % 24, transistor % 23, 23);
            s.setFault(transistor, transistor * 7 % 5 % 3);
        }
        return s;
    }

    private void save() {
        promise(27);
        say("Saves the circuit with all values and faults in a slot, and overwrites what was saved there.");
        SwitchLevelSimulator s = full();
        int[] before = picture(s);
        s.save(0);
        s.clearFaults();
        s.forget();
        s.restore(0);
        same("all values and faults", picture(s), before);
        s = new SwitchLevelSimulator();
        s.save(1);
        s.addInput();
        s.save(1);
        s.addStorage(2);
        s.save(1);
        s.addInput();
        due("the larger one", s.restore(1), 2);
        due("the larger one", s.inputs(), 0b01);
        s = Circuits.ring();
        s.save(0);
        s.setFault(5, STUCK_OPEN);
        s.save(1);
        s.restore(0);
        due("the other slot", s.clearFaults(), 0);
        s.save(1);
        s.restore(1);
        due("overwritten", s.clearFaults(), 0);
        s = new SwitchLevelSimulator();
        s.save(0);
        s.addInput();
        s.save(1);
        s.restore(0);
        s.save(1);
        due("a smaller one over a larger one", s.restore(1), 0);
        due("a smaller one over a larger one", s.value(0), NO_SUCH_NODE);

        say("`slot`: 0 or 1");
        s = Circuits.rails();
        due("slot 0", s.save(0), 2);
        due("slot 1", s.save(1), 2);

        say("Returns the number of nodes");
        due("no node", new SwitchLevelSimulator().save(0), 0);
        due("five nodes", Circuits.ring().save(1), 5);
        due("24 nodes", full().save(0), 24);

        say("OUT_OF_RANGE if slot is out of range.");
        for (int slot : WRONG_SLOTS) {
            s = Circuits.ring();
            due("slot " + slot, s.save(slot), OUT_OF_RANGE);
            due("nothing in slot 0", s.restore(0), NOT_SAVED);
            due("nothing in slot 1", s.restore(1), NOT_SAVED);
        }
    }

    private void restore() {
        promise(28);
        say("Restores the circuit that was saved last in a slot, with its values and faults.");
        SwitchLevelSimulator s = Circuits.ring();
        s.setFault(0, STUCK_OPEN);
        int[] ring = picture(s);
        s.save(0);
        s.setInput(GROUND, 1);
        s.setCharge(2, X);
        s.setFault(0, STUCK_CLOSED);
        s.setFault(1, STUCK_OPEN);
        s.addInput();
        s.addStorage(3);
        s.addTransistor(D, 3, 0, 5, 6);
        s.restore(0);
        same("the ring", picture(s), ring);
        due("a node behind it", s.value(5), NO_SUCH_NODE);
        due("a transistor behind it", s.switchState(6), NO_SUCH_TRANSISTOR);
        s.step();
        s.save(0);
        int[] later = picture(s);
        s.step();
        s.restore(0);
        same("the one saved last", picture(s), later);
        behindARestoredCircuit();

        say("The slot keeps it.");
        s = full();
        int[] all = picture(s);
        s.save(1);
        s.forget();
        s.clearFaults();
        due("once", s.restore(1), 24);
        s.forget();
        s.clearFaults();
        due("and again", s.restore(1), 24);
        same("and again", picture(s), all);

        say("`slot`: 0 or 1");
        s = Circuits.rails();
        s.save(0);
        s.addStorage(1);
        s.save(1);
        due("slot 0", s.restore(0), 2);
        due("slot 1", s.restore(1), 3);

        say("Returns the number of nodes");
        s = new SwitchLevelSimulator();
        s.save(0);
        s.addInput();
        due("no node", s.restore(0), 0);
        s = full();
        s.save(0);
        due("24 nodes", s.restore(0), 24);

        say("OUT_OF_RANGE if slot is out of range (checked first)");
        for (int slot : WRONG_SLOTS) {
            due("slot " + slot, s.restore(slot), OUT_OF_RANGE);
            due("nothing saved, slot " + slot, Circuits.rails().restore(slot), OUT_OF_RANGE);
        }

        say("NOT_SAVED if nothing was saved there.");
        due("slot 1, with slot 0 in use", s.restore(1), NOT_SAVED);
        due("nothing changes", s.nodeCount(), 24);
        s = Circuits.rails();
        due("slot 0", s.restore(0), NOT_SAVED);
        s.save(1);
        due("slot 0, with slot 1 in use", s.restore(0), NOT_SAVED);
        due("an empty circuit is saved, too", new SwitchLevelSimulator().save(1), 0);
    }

    /** Nodes and transistors that a restore took away leave no trace in those that come in their place. */
    private void behindARestoredCircuit() {
        SwitchLevelSimulator s = full();
        SwitchLevelSimulator fresh = new SwitchLevelSimulator();
        s.save(1);
        SwitchLevelSimulator emptied = new SwitchLevelSimulator();
        emptied.save(0);
        for (int node = 0; node < 24; node++) {
            Circuits.storage(emptied, 3, 1);
        }
        for (int transistor = 0; transistor < 40; transistor++) {
            emptied.addTransistor(D, 3, 0, transistor % 23, 23);
            emptied.setFault(transistor, STUCK_CLOSED);
        }
        due("emptied", emptied.restore(0), 0);
        for (SwitchLevelSimulator each : new SwitchLevelSimulator[] {fresh, emptied}) {
            each.addInput();
            each.addStorage(1);
            each.addStorage(2);
            each.addTransistor(N, 1, 0, 0, 1);
            each.addTransistor(P, 2, 1, 1, 2);
        }
        same("as in a new object", picture(emptied), picture(fresh));
        due("as in a new object", emptied.vicinity(2), fresh.vicinity(2));
        due("24 nodes again", s.restore(1), 24);
    }
}
