/** Promises 1 to 3, 16 and 17: a new object, words and endings. */
public final class WordsTest {
    public static void main(String[] args) {
        promise1NewObject();
        promise2AddWord();
        promise2Faults();
        promise2OrderOfErrors();
        promise2Full();
        promise3SetEnding();
        promise3Wrong();
        promise16Word();
        promise17Letter();
        constants();
        Check.end();
    }

    private static void promise1NewObject() {
        TaleHoles x = new TaleHoles();
        for (int what = 0; what <= 10; what++) {
            Check.due("1: count(" + what + ")", x.count(what), 0);
        }
        Check.due("1: word(0, 0)", x.word(0, 0), -1);
        Check.due("1: hole(0, 0)", x.hole(0, 0), -1);
        Check.due("1: told(0)", x.told(0), -5);
        Check.due("1: undo()", x.undo(), -5);
        Check.due("1: restore()", x.restore(), -5);
        Check.due("1: fillAll()", x.fillAll(), -5);
        for (int tie = 0; tie < 10; tie++) {
            for (int what = 0; what <= 5; what++) {
                Check.due("1: tie(" + tie + ", " + what + ")", x.tie(tie, what), 0);
            }
        }
        TaleHoles other = new TaleHoles();
        Check.word(x, "cat", 0, 1);
        x.keep();
        Check.due("1: another object's words", other.count(0), 0);
        Check.due("1: another object's text", other.count(10), 0);
        Check.due("1: another object's snapshot", other.restore(), -5);
    }

    private static void promise2AddWord() {
        TaleHoles x = new TaleHoles();
        Check.text(x, "cat");
        Check.due("2: noun", x.addWord(0, 2), 0);
        Check.due("2: the text stays", x.count(10), 3);
        Check.due("2: the same stem again", x.addWord(0, 2), 1);
        Check.due("2: verb", x.addWord(1, 0), 2);
        Check.due("2: adjective", x.addWord(2, 0), 3);
        Check.due("2: one letter", Check.word(x, "z", 0, 0), 4);
        Check.due("2: eight letters", Check.word(x, "abcdefgh", 0, 0), 5);
        Check.due("2: all are known", x.count(0), 6);
        Check.due("2: each is recorded, four at most", x.count(9), 4);
        Check.text(x, "dog");
        Check.due("2: a word keeps its stem", Check.spelt(x, 0, 0), "cat");
        Check.due("2: undone", x.undo(), 3);
        Check.due("2: five are left", x.count(0), 5);
        Check.due("2: the number comes again", x.addWord(0, 1), 5);
        Check.due("2: with the new stem", Check.spelt(x, 5, 0), "dog");
    }

    private static void promise2Faults() {
        TaleHoles x = new TaleHoles();
        Check.due("2: empty text", Check.word(x, "", 0, 0), -100);
        Check.due("2: nine letters", Check.word(x, "abcdefghi", 0, 0), -108);
        Check.due("2: a blank", Check.word(x, "ab c", 1, 0), -102);
        Check.due("2: a blank at the end", Check.word(x, "ab ", 1, 0), -102);
        Check.due("2: great letter", Check.word(x, "Ab", 2, 0), -100);
        Check.due("2: the sign before a", Check.word(x, "a`", 0, 0), -101);
        Check.due("2: the sign behind z", Check.word(x, "z{", 0, 0), -101);
        Check.due("2: a hole", Check.word(x, "#n0", 0, 0), -100);
        Check.due("2: none came", x.count(0), 0);
        Check.due("2: none is recorded", x.count(9), 0);
    }

    private static void promise2OrderOfErrors() {
        TaleHoles x = new TaleHoles();
        Check.due("2: kind 3, gender 9, fault", x.addWord(3, 9), -1);
        Check.due("2: kind -1", x.addWord(-1, 0), -1);
        Check.due("2: greatest kind", x.addWord(Integer.MAX_VALUE, 0), -1);
        Check.due("2: gender 3, fault", x.addWord(0, 3), -2);
        Check.due("2: gender -1", x.addWord(0, -1), -2);
        Check.due("2: gender of a verb", x.addWord(1, 1), -2);
        Check.due("2: gender of an adjective", x.addWord(2, 2), -2);
        Check.due("2: least gender", x.addWord(1, Integer.MIN_VALUE), -2);
        Check.due("2: nothing is recorded", x.count(9), 0);
    }

    private static void promise2Full() {
        TaleHoles x = new TaleHoles();
        Check.text(x, "ab");
        for (int word = 0; word < 24; word++) {
            Check.due("2: word " + word, x.addWord(word % 3, 0), word);
        }
        Check.due("2: the 25th", x.addWord(0, 0), -3);
        Check.due("2: the 25th of kind 3", x.addWord(3, 0), -1);
        Check.due("2: the 25th of gender 3", x.addWord(0, 3), -2);
        Check.due("2: the 25th with a fault", Check.word(x, "a#", 0, 0), -101);
        Check.due("2: 24 are known", x.count(0), 24);
        Check.due("2: the history stays", x.undo(), 3);
        Check.due("2: room again", Check.word(x, "q", 0, 0), 23);
    }

    private static void promise3SetEnding() {
        TaleHoles x = new TaleHoles();
        Check.word(x, "run", 1, 0);
        Check.due("3: two letters", x.setEnding(1, 4, 5, 19), 0);
        Check.due("3: the form has it", Check.spelt(x, 0, 4), "runes");
        Check.due("3: another form has not", Check.spelt(x, 0, 3), "run");
        Check.due("3: one letter", x.setEnding(1, 4, 26, 0), 27 * 5 + 19);
        Check.due("3: the form has it", Check.spelt(x, 0, 4), "runz");
        Check.due("3: none", x.setEnding(1, 4, 0, 0), 27 * 26);
        Check.due("3: none again", x.setEnding(1, 4, 0, 0), -5);
        Check.due("3: the form has none", Check.spelt(x, 0, 4), "run");
        Check.due("3: another kind", x.setEnding(2, 4, 26, 26), 0);
        Check.due("3: the verb stays", Check.spelt(x, 0, 4), "run");
        Check.due("3: the greatest", x.setEnding(2, 4, 1, 1), 27 * 26 + 26);
        Check.due("3: a noun's form 5", x.setEnding(0, 5, 1, 2), 0);
        Check.due("3: a noun's form 5 again", x.setEnding(0, 5, 1, 2), -5);
        Check.due("3: states", x.count(9), 4);
        Check.due("3: undone", x.undo(), 3);
        Check.due("3: it is the one before", x.setEnding(0, 5, 1, 2), 0);
    }

    private static void promise3Wrong() {
        TaleHoles x = new TaleHoles();
        Check.due("3: kind 3 and all wrong", x.setEnding(3, 6, 27, 27), -1);
        Check.due("3: kind -1", x.setEnding(-1, 0, 1, 1), -1);
        Check.due("3: form 6", x.setEnding(0, 6, 1, 1), -2);
        Check.due("3: form -1", x.setEnding(0, -1, 1, 1), -2);
        Check.due("3: first 27", x.setEnding(0, 0, 27, 1), -2);
        Check.due("3: first -1", x.setEnding(0, 0, -1, 1), -2);
        Check.due("3: second 27", x.setEnding(0, 0, 1, 27), -2);
        Check.due("3: second -1", x.setEnding(0, 0, 1, -1), -2);
        Check.due("3: second alone", x.setEnding(0, 0, 0, 1), -2);
        Check.due("3: second -1 alone", x.setEnding(0, 0, 0, -1), -2);
        Check.due("3: none, as it is", x.setEnding(0, 0, 0, 0), -5);
        Check.due("3: greatest", x.setEnding(0, 0, Integer.MAX_VALUE, Integer.MAX_VALUE), -2);
        Check.due("3: nothing is recorded", x.count(9), 0);
    }

    private static void promise16Word() {
        TaleHoles x = new TaleHoles();
        Check.word(x, "cat", 0, 2);
        Check.word(x, "go", 1, 0);
        Check.word(x, "abcdefgh", 2, 0);
        Check.tale(x, "#n0 #n0 #v0 #a3");
        int[][] due = {{0, 2, 3, 0}, {1, 0, 2, 0}, {2, 0, 8, 0}};
        for (int word = 0; word < 3; word++) {
            for (int what = 0; what < 4; what++) {
                Check.due("16: word(" + word + ", " + what + ")", x.word(word, what), due[word][what]);
            }
        }
        x.setEnding(0, 0, 1, 1);
        Check.due("16: an ending is not of the stem", x.word(0, 2), 3);
        x.fill(0, 0);
        x.fill(1, 0);
        x.fill(3, 2);
        Check.due("16: in two holes", x.word(0, 3), 2);
        Check.due("16: in none", x.word(1, 3), 0);
        Check.due("16: in one", x.word(2, 3), 1);
        Check.due("16: word 3", x.word(3, 0), -1);
        Check.due("16: word 3, what 4", x.word(3, 4), -1);
        Check.due("16: word -1", x.word(-1, 3), -1);
        Check.due("16: greatest word", x.word(Integer.MAX_VALUE, 0), -1);
        Check.due("16: what 4", x.word(0, 4), -2);
        Check.due("16: what -1", x.word(0, -1), -2);
    }

    private static void promise17Letter() {
        TaleHoles x = new TaleHoles();
        Check.word(x, "az", 0, 0);
        Check.word(x, "abcdefgh", 2, 0);
        x.setEnding(0, 1, 19, 0);
        x.setEnding(2, 5, 5, 26);
        x.setEnding(0, 4, 3, 4);
        Check.due("17: first", x.letter(0, 0, 0), 1);
        Check.due("17: second", x.letter(0, 0, 1), 26);
        Check.due("17: behind the stem", x.letter(0, 0, 2), -5);
        Check.due("17: ending", x.letter(0, 1, 2), 19);
        Check.due("17: behind the ending", x.letter(0, 1, 3), -5);
        Check.due("17: a noun's form that is never used", Check.spelt(x, 0, 4), "azcd");
        Check.due("17: ending of two", x.letter(1, 5, 9), 26);
        Check.due("17: behind the ending of two", x.letter(1, 5, 10), -5);
        Check.due("17: stem of eight without ending", Check.spelt(x, 1, 0), "abcdefgh");
        Check.due("17: stem of eight with ending", Check.spelt(x, 1, 5), "abcdefghez");
        Check.due("17: greatest place", x.letter(1, 5, Integer.MAX_VALUE), -5);
        Check.due("17: place -1", x.letter(1, 5, -1), -2);
        Check.due("17: least place", x.letter(1, 5, Integer.MIN_VALUE), -2);
        Check.due("17: form 6", x.letter(1, 6, 0), -2);
        Check.due("17: form 6, far place", x.letter(1, 6, 99), -2);
        Check.due("17: form -1", x.letter(1, -1, 0), -2);
        Check.due("17: word 2, form 6", x.letter(2, 6, -1), -1);
        Check.due("17: word -1", x.letter(-1, 0, 0), -1);
    }

    private static void constants() {
        Check.due("UNKNOWN", TaleHoles.UNKNOWN, -1);
        Check.due("BAD_VALUE", TaleHoles.BAD_VALUE, -2);
        Check.due("FULL", TaleHoles.FULL, -3);
        Check.due("NONE", TaleHoles.NONE, -5);
        Check.due("REFUSED", TaleHoles.REFUSED, -10);
    }
}
