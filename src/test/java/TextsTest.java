/** Promises 10 to 12: texts. */
public final class TextsTest {
    public static void main(String[] args) {
        promise10Type();
        promise11ClearText();
        promise12FaultAsStem();
        promise12FaultAsTale();
        textIsNotOfTheState();
        Check.end();
    }

    private static void promise10Type() {
        TaleHoles x = new TaleHoles();
        char[] odd = {'a', ' ', 'Z', (char) 0, (char) 255, (char) 65535, (char) 0xD800};
        for (int i = 0; i < odd.length; i++) {
            Check.due("10: type((char) " + (int) odd[i] + ")", x.type(odd[i]), i + 1);
        }
        for (int length = odd.length + 1; length <= 60; length++) {
            Check.due("10: to " + length, x.type('b'), length);
        }
        Check.due("10: the 61st", x.type('b'), -3);
        Check.due("10: the length stays", x.count(10), 60);
        Check.due("10: it is no act", x.count(9), 0);
        Check.text(x, "a".repeat(10) + (" " + "b".repeat(9)).repeat(5));
        Check.due("10: 60 characters", x.count(10), 60);
        Check.due("10: without a fault", x.fault(true), -5);
        Check.due("10: one more", x.type(' '), -3);
        Check.due("10: still without a fault", x.fault(true), -5);
    }

    private static void promise11ClearText() {
        TaleHoles x = new TaleHoles();
        Check.due("11: empty", x.clearText(), 0);
        x.type('a');
        x.type('b');
        Check.due("11: two", x.clearText(), 2);
        Check.due("11: again", x.clearText(), 0);
        Check.due("11: the length", x.count(10), 0);
        Check.due("11: as a stem", x.fault(false), 0);
        Check.due("11: from the start", x.type('c'), 1);
        x.addWord(0, 0);
        Check.due("11: the new text", Check.spelt(x, 0, 0), "c");
        for (int i = 0; i < 100; i++) {
            x.type('x');
        }
        Check.due("11: sixty", x.clearText(), 60);
    }

    private static void promise12FaultAsStem() {
        String[] texts = {"", "a", "z", "abcdefgh", "abcdefghi", "abcdefghI", "abC", " ", "a b", "1", "ab\u00e9",
            "ab\u0161", "a\uffff", "#n1"};
        int[] faults = {0, -5, -5, -5, 8, 8, 2, 0, 1, 0, 2, 2, 1, 0};
        TaleHoles x = new TaleHoles();
        for (int i = 0; i < texts.length; i++) {
            Check.text(x, texts[i]);
            Check.due("12: stem \"" + texts[i] + "\"", x.fault(false), faults[i]);
        }
    }

    private static void promise12FaultAsTale() {
        String[] texts = {"", "a", "abcdefghij", "abcdefghijk", "a b", "a ", "a  ", " a", "#n0", "#v5", "#a9", "#b0",
            "#n", "#", "##", "#n#", "#n0b", "#n00", "#n0 ", "#n0 #", "x #a1 y", "x #a1y", "a#", "a #n1 B",
            "abcdefghij abcdefghijk", "a,b", "a ".repeat(19) + "b", "a ".repeat(19) + "#n1", "a ".repeat(19) + "#n",
            "a ".repeat(20), "a ".repeat(19) + "B", "a ".repeat(19) + "b#"};
        int[] faults = {0, -5, -5, 10, -5, 2, 2, 0, -5, -5, -5, 1,
            2, 1, 1, 2, 3, 3, 4, 5, -5, 5, 1, 6,
            21, 1, -5, -5, 40,
            39, 38, 39};
        TaleHoles x = new TaleHoles();
        for (int i = 0; i < texts.length; i++) {
            Check.text(x, texts[i]);
            Check.due("12: tale \"" + texts[i] + "\"", x.fault(true), faults[i]);
            Check.due("12: the text stays", x.count(10), texts[i].length());
        }
        Check.due("12: no tale is taken", x.count(1), 0);
    }

    private static void textIsNotOfTheState() {
        TaleHoles x = new TaleHoles();
        Check.word(x, "cat", 0, 0);
        x.keep();
        Check.text(x, "mouse");
        Check.due("10: restored", x.restore(), 1);
        Check.due("10: the text is not restored", x.count(10), 5);
        Check.due("10: undone", x.undo(), 1);
        Check.due("10: the text is not undone", x.count(10), 5);
    }
}
