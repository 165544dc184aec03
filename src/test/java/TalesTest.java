/** Promises 4 to 9: tales, holes and ties. */
public final class TalesTest {
    public static void main(String[] args) {
        promise4ReadTale();
        promise4Faults();
        promise5SetTie();
        promise6Fill();
        promise6Once();
        promise7Empty();
        promise8FillAll();
        promise8Once();
        promise9Set();
        Check.end();
    }

    /** Words 0 and 3 are nouns of the genders 1 and 2, 1 is a verb, 2 an adjective, 4 a noun of the gender 1. */
    private static TaleHoles withWords() {
        TaleHoles x = new TaleHoles();
        Check.word(x, "cat", 0, 1);
        Check.word(x, "run", 1, 0);
        Check.word(x, "big", 2, 0);
        Check.word(x, "dogge", 0, 2);
        Check.word(x, "cow", 0, 1);
        return x;
    }

    private static void promise4ReadTale() {
        TaleHoles x = withWords();
        x.setTie(1, 1, 2);
        Check.due("4: three holes", Check.tale(x, "the #a1 #n1 #v2 now"), 3);
        Check.due("4: the text stays", x.count(10), 19);
        Check.due("4: items", x.count(1), 5);
        Check.due("4: holes", x.count(2), 3);
        Check.due("4: told", Check.told(x), "the _ _ _ now");
        Check.due("4: ties stay", x.tie(1, 0) * 3 + x.tie(1, 1), 5);
        x.fill(1, 0);
        Check.due("4: filled", Check.told(x), "the _ cat _ now");
        Check.due("4: the same again", Check.tale(x, "the #a1 #n1 #v2 now"), 3);
        Check.due("4: its holes are empty", x.count(3), 3);
        Check.due("4: ties still stay", x.tie(1, 0) * 3 + x.tie(1, 1), 5);
        Check.due("4: fillings stay", x.count(8), 1);
        Check.due("4: it is recorded", x.undo(), 3);
        Check.due("4: undone", Check.told(x), "the _ cat _ now");
        Check.due("4: no holes", Check.tale(x, "abcdefghij"), 0);
        Check.due("4: a long plain word", Check.told(x), "abcdefghij");
        Check.due("4: the text may change", Check.tale(x, "xyz") + x.clearText(), 3);
        Check.due("4: the tale has its own", Check.told(x), "xyz");
        Check.due("4: one hole", Check.tale(x, "#v9"), 1);
        Check.due("4: its tie", x.hole(0, 1), 9);
        Check.due("4: fifteen holes", Check.tale(x, "#n0 ".repeat(14) + "#n9"), 15);
        Check.due("4: twenty items", Check.tale(x, "a ".repeat(19) + "t"), 0);
        Check.due("4: items", x.count(1), 20);
        Check.due("4: twenty items with holes", Check.tale(x, "a ".repeat(10) + "#n1 ".repeat(9) + "#a2"), 10);
        Check.due("4: told", Check.told(x), "a ".repeat(10) + "_ ".repeat(9) + "_");
    }

    private static void promise4Faults() {
        TaleHoles x = new TaleHoles();
        Check.tale(x, "once");
        String[] texts = {"", " a", "a ", "a  b", "A", "a1", "#", "#x", "# ", "#n", "#nn", "#n/", "#n:", "#n12", "#n1a",
            "#n1#n2", "a#n1", "#n1 ", "#n1 #", "abcdefghijk", "abc abcdefghijk", "a`", "z{", "#N1", "a\u0000", "a\u0161"};
        int[] faults = {0, 0, 2, 2, 0, 1, 1, 1, 1, 2, 2, 2, 2, 3, 3,
            3, 1, 4, 5, 10, 14, 1, 1, 1, 1, 1};
        for (int i = 0; i < texts.length; i++) {
            Check.due("4: \"" + texts[i] + "\"", Check.tale(x, texts[i]), -100 - faults[i]);
        }
        Check.due("4: 21 items", Check.tale(x, "a ".repeat(20) + "t"), -139);
        Check.due("4: a blank behind 20", Check.tale(x, "a ".repeat(20)), -139);
        Check.due("4: letter fault before", Check.tale(x, "a ".repeat(18) + "B" + " c d"), -136);
        Check.due("4: the tale stays", Check.told(x), "once");
        Check.due("4: only the first is recorded", x.count(9), 1);
    }

    private static void promise5SetTie() {
        TaleHoles x = new TaleHoles();
        Check.due("5: as it is", x.setTie(0, 0, 0), -5);
        Check.due("5: first", x.setTie(0, 1, 2), 0);
        Check.due("5: number", x.tie(0, 0), 1);
        Check.due("5: tense", x.tie(0, 1), 2);
        Check.due("5: again", x.setTie(0, 1, 2), -5);
        Check.due("5: tense alone", x.setTie(0, 1, 1), 5);
        Check.due("5: number alone", x.setTie(0, 0, 1), 4);
        Check.due("5: the last tie", x.setTie(9, 1, 0), 0);
        Check.due("5: its number", x.tie(9, 0), 1);
        Check.due("5: states", x.count(9), 4);
        Check.due("5: undone", x.undo(), 3);
        Check.due("5: its number is back", x.tie(9, 0), 0);
        Check.due("5: undone again", x.undo(), 2);
        Check.due("5: back", x.tie(0, 0) * 3 + x.tie(0, 1), 4);
        Check.due("5: tie 10 and all wrong", x.setTie(10, 2, 3), -1);
        Check.due("5: tie -1", x.setTie(-1, 0, 0), -1);
        Check.due("5: number 2", x.setTie(0, 2, 0), -2);
        Check.due("5: number -1", x.setTie(0, -1, 0), -2);
        Check.due("5: tense 3", x.setTie(0, 1, 3), -2);
        Check.due("5: tense -1", x.setTie(0, 1, -1), -2);
        Check.due("5: no more states", x.count(9), 2);
    }

    private static void promise6Fill() {
        TaleHoles x = withWords();
        Check.tale(x, "#n1 #n1 #n2 #v1 #a1");
        Check.due("6: empty", x.fill(0, 0), 100);
        Check.due("6: a word of the same gender", x.fill(0, 4), 0);
        Check.due("6: its own gender does not matter", x.fill(0, 3), 4);
        Check.due("6: the same word again", x.fill(0, 3), 3);
        Check.due("6: states", x.count(9), 4);
        Check.due("6: fillings", x.count(8), 4);
        Check.due("6: another gender", x.fill(1, 0), -12);
        Check.due("6: another tie", x.fill(2, 0), 100);
        Check.due("6: another kind", x.fill(3, 2), -11);
        Check.due("6: a noun into a verb's hole", x.fill(3, 3), -11);
        Check.due("6: an adjective", x.fill(4, 2), 100);
        Check.due("6: the verb", x.fill(3, 1), 100);
        Check.due("6: told", Check.told(x), "dogge _ cat run big");
        Check.due("6: fillings", x.count(8), 7);
        Check.due("6: hole 5", x.fill(5, 0), -1);
        Check.due("6: hole -1", x.fill(-1, 0), -1);
        Check.due("6: word 5", x.fill(0, 5), -1);
        Check.due("6: word -1", x.fill(0, -1), -1);
        Check.due("6: greatest", x.fill(Integer.MAX_VALUE, Integer.MAX_VALUE), -1);
        Check.due("6: undone", x.undo(), 3);
        Check.due("6: the verb is out", Check.told(x), "dogge _ cat _ big");
        Check.due("6: its filling too", x.count(8), 6);
        Check.due("6: a word that does not fit is not recorded", x.fill(1, 0) + 10 * x.count(9), 18);
    }

    private static void promise6Once() {
        TaleHoles x = withWords();
        Check.tale(x, "#n1 #n1 #n2");
        x.fill(0, 0);
        x.set(1);
        Check.due("6: in another hole", x.fill(2, 0), -13);
        Check.due("6: in the hole itself", x.fill(0, 0), -13);
        Check.due("6: the kind is first", x.fill(2, 1), -11);
        x.fill(2, 3);
        Check.due("6: the gender is before the place", x.fill(1, 3), -12);
        Check.due("6: another", x.fill(0, 4), 0);
        Check.due("6: what was taken out is free", x.fill(1, 0), 100);
    }

    private static void promise7Empty() {
        TaleHoles x = withWords();
        Check.tale(x, "#n1 #n1");
        Check.due("7: empty", x.empty(0), -5);
        Check.due("7: hole 2", x.empty(2), -1);
        Check.due("7: hole -1", x.empty(-1), -1);
        x.fill(0, 3);
        x.fill(1, 3);
        int states = x.count(9);
        Check.due("7: a word", x.empty(1), 3);
        Check.due("7: again", x.empty(1), -5);
        Check.due("7: the other hole stays", Check.told(x), "dogge _");
        x.empty(0);
        Check.due("7: the gender is free", x.fill(1, 0), 100);
        Check.due("7: fillings", x.count(8), 3);
        Check.due("7: states", x.count(9), Math.min(4, states + 3));
        x.undo();
        x.undo();
        Check.due("7: undone", Check.told(x), "dogge _");
        Check.due("7: word 0 is told as 0", x.empty(0) * 10 + x.fill(0, 0), 130);
        Check.due("7: word 0", x.empty(0), 0);
    }

    private static void promise8FillAll() {
        TaleHoles x = withWords();
        Check.due("8: no tale", x.fillAll(), -5);
        Check.tale(x, "#a1 #n1 #n1 #v3 #n2 #n1");
        x.fill(2, 3);
        Check.due("8: all that are empty", x.fillAll(), 5);
        Check.due("8: told", Check.told(x), "big dogge dogge run cat dogge");
        Check.due("8: fillings", x.count(8), 6);
        Check.due("8: nothing more", x.fillAll(), -5);
        Check.due("8: one state", x.undo(), 3);
        Check.due("8: undone", Check.told(x), "_ _ dogge _ _ _");
        Check.due("8: fillings undone", x.count(8), 1);
        TaleHoles y = new TaleHoles();
        Check.word(y, "b", 2, 0);
        Check.tale(y, "#n0 #a0 #v0 #a1");
        Check.due("8: some stay empty", y.fillAll(), 2);
        Check.due("8: told", Check.told(y), "_ b _ b");
        int states = y.count(9);
        Check.due("8: none fits", y.fillAll(), -5);
        Check.due("8: not recorded", y.count(9), states);
    }

    private static void promise8Once() {
        TaleHoles x = withWords();
        Check.tale(x, "#n1 #n1 #n1 #n2 #v0 #v0");
        x.set(1);
        Check.due("8: each word once", x.fillAll(), 4);
        Check.due("8: the lowest that fits then", Check.told(x), "cat cow _ dogge run _");
        Check.due("8: none is left", x.fillAll(), -5);
        x.set(0);
        Check.due("8: the others", x.fillAll(), 2);
        Check.due("8: told", Check.told(x), "cat cow cat dogge run run");
    }

    private static void promise9Set() {
        TaleHoles x = withWords();
        Check.tale(x, "#n1 #n1");
        x.fillAll();
        Check.due("9: as it is", x.set(0), -5);
        Check.due("9: once", x.set(1), 0);
        Check.due("9: again", x.set(1), -5);
        Check.due("9: told by count", x.count(7), 1);
        Check.due("9: words stay", Check.told(x), "cat cat");
        Check.due("9: back", x.set(0), 1);
        Check.due("9: 2", x.set(2), -2);
        Check.due("9: -1", x.set(-1), -2);
        Check.due("9: least", x.set(Integer.MIN_VALUE), -2);
        Check.due("9: undone", x.undo(), 3);
        Check.due("9: once again", x.count(7), 1);
    }
}
