/** Promises 13 to 15: undo and the snapshot. */
public final class HistoryTest {
    public static void main(String[] args) {
        promise13Undo();
        promise13FourStates();
        promise13EveryAct();
        promise13NoActs();
        promise14Keep();
        promise15Restore();
        promise15WholeState();
        promise15OtherWords();
        promise15OtherTale();
        Check.end();
    }

    private static void promise13Undo() {
        TaleHoles x = new TaleHoles();
        Check.due("13: empty", x.undo(), -5);
        Check.text(x, "a");
        x.addWord(0, 0);
        x.addWord(0, 1);
        Check.due("13: one is left", x.undo(), 1);
        Check.due("13: one word", x.count(0), 1);
        Check.due("13: none is left", x.undo(), 0);
        Check.due("13: no word", x.count(0), 0);
        Check.due("13: no more", x.undo(), -5);
        Check.due("13: undoing is not recorded", x.count(9), 0);
    }

    private static void promise13FourStates() {
        TaleHoles x = new TaleHoles();
        Check.text(x, "a");
        for (int word = 0; word < 7; word++) {
            x.addWord(0, 0);
            Check.due("13: states", x.count(9), Math.min(4, word + 1));
        }
        for (int left = 3; left >= 0; left--) {
            Check.due("13: left", x.undo(), left);
            Check.due("13: words", x.count(0), 3 + left);
        }
        Check.due("13: the older ones are dropped", x.undo(), -5);
        Check.due("13: words stay", x.count(0), 3);
        x.setTie(1, 1, 1);
        x.setTie(2, 1, 1);
        x.undo();
        x.setTie(3, 1, 1);
        Check.due("13: between", x.undo(), 1);
        Check.due("13: tie 3", x.tie(3, 0), 0);
        Check.due("13: tie 2", x.tie(2, 0), 0);
        Check.due("13: tie 1", x.tie(1, 0), 1);
    }

    private static void promise13EveryAct() {
        TaleHoles x = new TaleHoles();
        Check.word(x, "cat", 0, 2);
        Check.due("13: addWord", x.undo() * 100 + x.count(0), 0);
        Check.word(x, "cat", 0, 2);
        x.setEnding(0, 0, 1, 2);
        Check.due("13: setEnding", x.undo() * 1000 + x.setEnding(0, 0, 1, 2), 1000);
        Check.tale(x, "#n4 so");
        Check.due("13: readTale", x.undo() * 100 + x.count(1), 200);
        Check.tale(x, "#n4 so");
        x.setTie(4, 1, 2);
        Check.due("13: setTie", x.undo() * 100 + x.tie(4, 0) + x.tie(4, 1), 300);
        x.set(1);
        Check.due("13: set", x.undo() * 100 + x.count(7), 300);
        x.fill(0, 0);
        Check.due("13: fill", x.undo() * 100 + x.count(3), 301);
        x.fillAll();
        Check.due("13: fillAll", x.undo() * 100 + x.count(3), 301);
        x.fill(0, 0);
        x.empty(0);
        Check.due("13: empty", x.undo() * 100 + x.count(3), 300);
        x.keep();
        x.undo();
        x.restore();
        Check.due("13: restore", x.undo() * 100 + x.count(3), 201);
        Check.due("13: told", Check.told(x), "_ so");
    }

    private static void promise13NoActs() {
        TaleHoles x = new TaleHoles();
        Check.word(x, "cat", 0, 2);
        Check.tale(x, "#n0");
        Check.due("13: two", x.count(9), 2);
        x.keep();
        x.fault(true);
        x.word(0, 0);
        x.letter(0, 0, 0);
        x.hole(0, 0);
        x.tie(0, 0);
        x.told(0);
        x.reason(0, 0);
        x.fits(0);
        x.tieCould(0, true);
        x.type('a');
        x.clearText();
        x.addWord(0, 0);
        x.readTale();
        x.setEnding(0, 0, 0, 0);
        x.setTie(0, 0, 0);
        x.fill(0, 7);
        x.empty(0);
        x.set(0);
        Check.due("13: still two", x.count(9), 2);
    }

    private static void promise14Keep() {
        TaleHoles x = new TaleHoles();
        Check.due("14: no words", x.keep(), 0);
        Check.word(x, "cat", 0, 0);
        Check.due("14: one word", x.keep(), 1);
        Check.due("14: it is no act", x.count(9), 1);
        Check.word(x, "dog", 0, 0);
        Check.due("14: in place of the one that was", x.restore(), 1);
        x.undo();
        x.undo();
        Check.due("14: the snapshot is not undone", x.restore(), 1);
        Check.due("14: its word", Check.spelt(x, 0, 0), "cat");
    }

    private static void promise15Restore() {
        TaleHoles x = new TaleHoles();
        Check.due("15: no snapshot", x.restore(), -5);
        Check.due("15: nothing is recorded", x.count(9), 0);
        x.keep();
        Check.due("15: an empty one", x.restore(), 0);
        Check.due("15: it is recorded", x.count(9), 1);
        Check.word(x, "cat", 0, 0);
        Check.word(x, "dog", 0, 0);
        Check.due("15: no words then", x.restore(), 0);
        Check.due("15: states", x.count(9), 4);
        Check.due("15: again", x.restore(), 0);
        x.undo();
        Check.due("15: undone", x.undo() * 10 + x.count(0), 22);
        Check.due("15: the word", Check.spelt(x, 1, 0), "dog");
        Check.due("15: the snapshot stays", x.restore(), 0);
    }

    private static void promise15WholeState() {
        TaleHoles x = new TaleHoles();
        Check.word(x, "cat", 0, 2);
        Check.word(x, "big", 2, 0);
        x.setEnding(0, 1, 19, 0);
        x.setTie(1, 1, 2);
        Check.tale(x, "the #a1 #n1 #v2");
        x.fill(1, 0);
        x.set(1);
        x.keep();
        Check.word(x, "run", 1, 0);
        x.setEnding(0, 1, 20, 20);
        x.setTie(1, 0, 1);
        x.fillAll();
        x.set(0);
        Check.tale(x, "end #n3 #n3 #n3 #n3");
        x.fillAll();
        Check.due("15: restored", x.restore(), 2);
        Check.due("15: told", Check.told(x), "the _ cats _");
        Check.due("15: tie", x.tie(1, 0) * 3 + x.tie(1, 1), 5);
        Check.due("15: once", x.count(7), 1);
        Check.due("15: fillings", x.count(8), 1);
        Check.due("15: holes", x.count(2), 3);
        Check.due("15: states", x.count(9), 4);
        Check.due("15: undone", x.undo(), 3);
        Check.due("15: told before", Check.told(x), "end cat cat cat cat");
        Check.due("15: fillings before", x.count(8), 7);
    }

    private static void promise15OtherWords() {
        TaleHoles x = new TaleHoles();
        Check.word(x, "cat", 0, 2);
        Check.word(x, "go", 1, 0);
        x.keep();
        x.undo();
        x.undo();
        Check.word(x, "big", 2, 0);
        Check.word(x, "mouse", 0, 1);
        Check.due("15: other words", Check.spelt(x, 0, 0) + Check.spelt(x, 1, 0), "bigmouse");
        x.restore();
        int[][] due = {{0, 2, 3, 0}, {1, 0, 2, 0}};
        for (int word = 0; word < 2; word++) {
            for (int what = 0; what < 4; what++) {
                Check.due("15: word(" + word + ", " + what + ")", x.word(word, what), due[word][what]);
            }
        }
        Check.due("15: stems", Check.spelt(x, 0, 0) + Check.spelt(x, 1, 0), "catgo");
        x.undo();
        Check.due("13: stems", Check.spelt(x, 0, 0) + Check.spelt(x, 1, 0), "bigmouse");
        Check.due("13: kinds", x.word(0, 0) * 10 + x.word(1, 0), 20);
        Check.due("13: gender", x.word(1, 1), 1);
    }

    private static void promise15OtherTale() {
        TaleHoles x = new TaleHoles();
        Check.word(x, "cat", 0, 2);
        Check.tale(x, "#n1 the #v2 then");
        x.fill(0, 0);
        x.keep();
        Check.tale(x, "so #a5 #n4 we #n3");
        x.fill(2, 0);
        x.restore();
        Check.due("15: the tale", Check.told(x), "cat the _ then");
        int[][] kept = {{0, 1, 0, 0, 3, 0}, {1, 2, -5, 0, 0, 2}};
        for (int hole = 0; hole < 2; hole++) {
            for (int what = 0; what < 6; what++) {
                Check.due("15: hole(" + hole + ", " + what + ")", x.hole(hole, what), kept[hole][what]);
            }
        }
        x.undo();
        Check.due("13: the tale", Check.told(x), "so _ _ we cat");
        int[][] undone = {{2, 5, -5, 0, 0, 1}, {0, 4, -5, 0, 0, 2}, {0, 3, 0, 0, 3, 4}};
        for (int hole = 0; hole < 3; hole++) {
            for (int what = 0; what < 6; what++) {
                Check.due("13: hole(" + hole + ", " + what + ")", x.hole(hole, what), undone[hole][what]);
            }
        }
    }
}
