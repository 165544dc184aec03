/** The history and the snapshot: the terms of HISTORY, and promises 13 to 15. */
final class HistoryBoundaries {
    private HistoryBoundaries() {
    }

    static void run() {
        termsAtMost4();
        termsRecords();
        termsErrorsAreNotRecorded();
        termsSnapshot();
        termsState();
        termsWholeState();
        promise13Latest();
        promise13Returns();
        promise14InPlace();
        promise14Returns();
        promise15Stays();
        promise15Act();
        promise15Returns();
    }

    private static void words(TaleHoles x, int words) {
        for (int word = 0; word < words; word++) {
            Check.word(x, "" + (char) ('a' + word), 1, 0);
        }
    }

    private static void termsAtMost4() {
        Check.sentence("Terms", "A history of at most 4 states is kept; when one more is recorded, the oldest one is dropped; "
            + "undo() removes and restores the latest one.");
        for (int acts = 0; acts <= 14; acts++) {
            TaleHoles x = new TaleHoles();
            words(x, acts);
            int states = Math.min(4, acts);
            Check.due("states after " + acts + " acts", x.count(9), states);
            for (int undone = 1; undone <= states; undone++) {
                Check.due("undo()", x.undo(), states - undone);
                Check.due("words after " + acts + " acts, " + undone + " undone", x.count(0), acts - undone);
            }
            Check.due("one undo() more", x.undo(), -5);
            Check.due("words", x.count(0), acts - states);
        }
    }

    private static void termsRecords() {
        Check.sentence("Terms", "Each call of a method that is described as an act, and returns no error and not NONE, "
            + "records the state that was before it.");
        Twins.act("addWord(0, 1)", x -> x.type('a'), x -> x.addWord(0, 1));
        Twins.act("setEnding(0, 0, 1, 0)", x -> { }, x -> x.setEnding(0, 0, 1, 0));
        Twins.act("readTale()", x -> x.type('a'), TaleHoles::readTale);
        Twins.act("setTie(3, 1, 1)", x -> { }, x -> x.setTie(3, 1, 1));
        Twins.act("fill(0, 0)", HistoryBoundaries::wordAndHole, x -> x.fill(0, 0));
        Twins.act("fillAll()", HistoryBoundaries::wordAndHole, TaleHoles::fillAll);
        Twins.act("set(1)", x -> { }, x -> x.set(1));
        Twins.act("restore()", TaleHoles::keep, TaleHoles::restore);
        Twins.act("empty(0)", x -> {
            wordAndHole(x);
            x.fill(0, 0);
        }, x -> x.empty(0));
    }

    private static void wordAndHole(TaleHoles x) {
        Check.word(x, "go", 1, 0);
        Check.tale(x, "#v0");
    }

    private static void termsErrorsAreNotRecorded() {
        Check.sentence("Terms", "returns no error and not NONE, records");
        for (int states = 0; states <= 4; states++) {
            TaleHoles x = new TaleHoles();
            words(x, states);
            x.addWord(3, 0);
            x.addWord(0, 3);
            x.clearText();
            x.addWord(0, 0);
            x.setEnding(3, 0, 0, 0);
            x.setEnding(0, 6, 0, 0);
            x.setEnding(0, 0, 0, 0);
            x.readTale();
            x.setTie(10, 0, 0);
            x.setTie(0, 2, 0);
            x.setTie(0, 0, 0);
            x.fill(0, 0);
            x.empty(0);
            x.fillAll();
            x.set(2);
            x.set(0);
            x.restore();
            Check.due("states", x.count(9), states);
        }
    }

    private static void termsSnapshot() {
        Check.sentence("Terms", "There is one snapshot, empty at first.");
        TaleHoles x = new TaleHoles();
        Check.due("restore()", x.restore(), -5);
        words(x, 2);
        Check.due("restore() with words", x.restore(), -5);
        x.keep();
        words(x, 1);
        x.keep();
        words(x, 1);
        Check.due("restore() of the only one", x.restore(), 3);
        x.undo();
        x.undo();
        x.undo();
        Check.due("restore() of the same one", x.restore(), 3);
    }

    private static void termsState() {
        Check.sentence("Terms", "A state is everything but the text, the history and the snapshot.");
        TaleHoles x = new TaleHoles();
        Twins.rich(x);
        int fillings = x.count(8);
        x.fillAll();
        Check.text(x, "other");
        x.keep();
        x.set(1);
        x.undo();
        x.undo();
        Check.due("the text is not undone", x.count(10), 5);
        Check.due("the fillings are", x.count(8), fillings);
        Check.due("the snapshot is not", x.restore(), 5);
        Check.due("the snapshot has the fillings", x.count(8), fillings + 2);
        Check.text(x, "and so");
        x.restore();
        Check.due("the text is not restored", x.count(10), 6);
        Check.due("the history is not", x.count(9), 4);
    }

    /** States of four acts and of three, two by two, that differ in all that a state has. */
    private static void termsWholeState() {
        Check.sentence("Terms", "A state is everything but the text, the history and the snapshot.");
        checkWholeState(x -> {
            Check.word(x, "cat", 0, 2);
            x.setTie(1, 1, 2);
            Check.tale(x, "#n1 the #v2 then #n1");
            x.fillAll();
        }, x -> {
            Check.word(x, "go", 1, 0);
            Check.tale(x, "we #v3 #v4 as #v4 if so");
            x.fillAll();
        });
        checkWholeState(x -> {
            x.setEnding(0, 1, 3, 4);
            x.setTie(4, 0, 2);
            x.set(1);
            Check.word(x, "abcdefgh", 0, 1);
        }, x -> {
            x.setTie(4, 1, 0);
            x.setEnding(0, 1, 5, 0);
            Check.word(x, "big", 2, 0);
        });
        checkWholeState(x -> {
            Check.word(x, "ox", 0, 0);
            Check.tale(x, "#n5 #n6");
            x.fill(1, 0);
            x.empty(1);
        }, x -> {
            Check.word(x, "ox", 0, 1);
            Check.tale(x, "by #n6 #n5");
            x.fill(0, 0);
        });
    }

    private static void checkWholeState(Twins.Calls four, Twins.Calls three) {
        Twins.sameAtOnce("the state that restore() brings back", x -> {
            four.on(x);
            x.keep();
            clearHistory(x);
            three.on(x);
            x.set(1 - x.count(7));
            x.restore();
            Check.text(x, "so");
        }, x -> {
            four.on(x);
            Check.text(x, "so");
        });
        Twins.sameAtOnce("the state that undo() brings back", x -> {
            four.on(x);
            x.keep();
            clearHistory(x);
            three.on(x);
            x.restore();
            x.undo();
            Check.text(x, "so");
        }, x -> {
            three.on(x);
            Check.text(x, "so");
        });
    }

    private static void clearHistory(TaleHoles x) {
        for (int i = 0; i < 4; i++) {
            x.undo();
        }
    }

    private static void promise13Latest() {
        Check.sentence("Promise 13", "Removes and restores the latest state of the history.");
        TaleHoles x = new TaleHoles();
        words(x, 6);
        x.undo();
        x.undo();
        Check.due("a new word", Check.word(x, "z", 1, 0), 4);
        Check.due("states", x.count(9), 3);
        x.undo();
        Check.due("words", x.count(0), 4);
        Check.due("the last one", Check.spelt(x, 3, 0), "d");
        x.undo();
        Check.due("words", x.count(0), 3);
        for (int round = 0; round < 9; round++) {
            words(x, 5);
            x.undo();
            x.undo();
            x.undo();
            x.undo();
            x.undo();
            Check.due("words after round " + round, x.count(0), 4 + round);
        }
    }

    private static void promise13Returns() {
        Check.sentence("Promise 13", "Returns the number of states that are left; NONE if the history is empty.");
        TaleHoles x = new TaleHoles();
        Check.due("undo() of a new object", x.undo(), -5);
        words(x, 1);
        Check.due("undo() of one", x.undo(), 0);
        Check.due("undo() of none", x.undo(), -5);
        words(x, 9);
        for (int left = 3; left >= 0; left--) {
            Check.due("undo()", x.undo(), left);
        }
        Check.due("undo() of none", x.undo(), -5);
        Twins.Refused refused = new Twins.Refused(y -> {
            Twins.rich(y);
            clearHistory(y);
        });
        refused.due("undo() of none", TaleHoles::undo, -5);
        refused.changeNothing();
    }

    private static void promise14InPlace() {
        Check.sentence("Promise 14", "Takes a snapshot of the state, in place of the one that was.");
        TaleHoles x = new TaleHoles();
        x.keep();
        words(x, 1);
        x.keep();
        words(x, 1);
        Check.due("the later one", x.restore(), 1);
        x.undo();
        Check.due("a later act does not change it", x.restore(), 1);
        Twins.rich(x);
        Check.due("it is no act", x.count(9), 4);
        Twins.same("keep() twice", y -> {
            Twins.rich(y);
            y.keep();
            y.keep();
        }, y -> {
            Twins.rich(y);
            y.keep();
        });
        TaleHoles y = new TaleHoles();
        y.keep();
        Check.due("keep() is not recorded", y.count(9), 0);
    }

    private static void promise14Returns() {
        Check.sentence("Promise 14", "Returns how many words are known.");
        TaleHoles x = new TaleHoles();
        Check.due("keep() of no words", x.keep(), 0);
        words(x, 24);
        Check.due("keep() of 24", x.keep(), 24);
        x.undo();
        Check.due("keep() of 23", x.keep(), 23);
    }

    private static void promise15Stays() {
        Check.sentence("Promise 15", "Restores the state of the snapshot, which stays.");
        TaleHoles x = new TaleHoles();
        Check.word(x, "cat", 0, 2);
        Check.tale(x, "#n1 so");
        x.fill(0, 0);
        x.keep();
        for (int round = 0; round < 6; round++) {
            Check.tale(x, "#v2");
            Check.word(x, "go", 1, 0);
            x.setEnding(0, 0, 1 + round, 0);
            Check.due("restore()", x.restore(), 1);
            Check.due("told", Check.told(x), "cat so");
            x.empty(0);
            Check.due("restore() after empty(0)", x.restore(), 1);
            Check.due("told", Check.told(x), "cat so");
        }
    }

    private static void promise15Act() {
        Check.sentence("Promise 15", "This is an act.");
        Twins.act("restore()", TaleHoles::restore);
        Twins.act("restore() of the state that is", x -> {
            Twins.richWithThreeStates(x);
            x.keep();
        }, TaleHoles::restore);
        Twins.act("restore() of an empty state", TaleHoles::keep, TaleHoles::restore);
    }

    private static void promise15Returns() {
        Check.sentence("Promise 15", "Returns how many words are known then; NONE if there is no snapshot.");
        TaleHoles x = new TaleHoles();
        x.keep();
        words(x, 24);
        Check.due("no words", x.restore(), 0);
        x.undo();
        x.keep();
        x.undo();
        Check.due("24 words", x.restore(), 24);
        Twins.Refused refused = new Twins.Refused(y -> {
            Check.word(y, "cat", 0, 1);
            Check.tale(y, "#n1");
            y.fillAll();
        });
        refused.due("restore()", TaleHoles::restore, -5);
        refused.changeNothing();
    }
}
