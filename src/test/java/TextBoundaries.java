/** Texts: the terms of TEXTS, and promises 10 to 12. */
final class TextBoundaries {
    private static final int NO_FAULT = -5;

    private TextBoundaries() {
    }

    static void run() {
        termsAtMost60();
        termsTwoWays();
        termsStem();
        termsTale();
        termsPlainWords();
        termsHolesInTales();
        termsItemsInTales();
        termsFault();
        promise10AnyCharacter();
        promise10Returns();
        promise11Returns();
        promise12Returns();
    }

    private static void checkFault(boolean asTale, String text, int due) {
        TaleHoles x = new TaleHoles();
        Check.text(x, text);
        Check.due("fault(" + asTale + ") of \"" + text + "\"", x.fault(asTale), due);
    }

    private static void termsAtMost60() {
        Check.sentence("Terms", "There is a text of at most 60 characters, empty at first.");
        TaleHoles x = new TaleHoles();
        Check.due("count(10)", x.count(10), 0);
        Check.due("clearText()", x.clearText(), 0);
        for (int length = 1; length <= 60; length++) {
            Check.due("to " + length, x.type('a'), length);
        }
        Check.due("the 61st", x.type('a'), -3);
        Check.due("count(10)", x.count(10), 60);
    }

    private static void termsTwoWays() {
        Check.sentence("Terms", "It can be read in two ways.");
        String[] texts = {"", "abcdefgh", "abcdefghi", "abcdefghijk", "a b", "#n0"};
        int[] asStem = {0, NO_FAULT, 8, 8, 1, 0};
        int[] asTale = {0, NO_FAULT, NO_FAULT, 10, NO_FAULT, NO_FAULT};
        for (int i = 0; i < texts.length; i++) {
            checkFault(false, texts[i], asStem[i]);
            checkFault(true, texts[i], asTale[i]);
        }
    }

    private static void termsStem() {
        Check.sentence("Terms", "A stem: 1 to 8 small letters.");
        checkFault(false, "", 0);
        for (int letters = 1; letters <= 8; letters++) {
            checkFault(false, "z".repeat(letters), NO_FAULT);
            checkFault(false, "a".repeat(letters) + " ", letters);
        }
        checkFault(false, "a".repeat(9), 8);
        checkFault(false, "a".repeat(60), 8);
        checkFault(false, "a".repeat(8) + "1", 8);
        checkFault(false, "a".repeat(7) + "1", 7);
        for (char sign = 0; sign < 0xffff; sign++) {
            if (sign < 600 || sign > 0xff00 || sign % 256 == 'a' || sign % 128 == 'z') {
                checkFault(false, "k" + sign, sign >= 'a' && sign <= 'z' ? NO_FAULT : 1);
            }
        }
    }

    private static void termsTale() {
        Check.sentence("Terms", "A tale: one or more items with one blank between two;");
        checkFault(true, "", 0);
        checkFault(true, "a", NO_FAULT);
        checkFault(true, "a b", NO_FAULT);
        checkFault(true, " ", 0);
        checkFault(true, " a", 0);
        checkFault(true, "a ", 2);
        checkFault(true, "a  b", 2);
        checkFault(true, "#n0  #n0", 4);
        checkFault(true, "#n0 ", 4);
        checkFault(true, "#n0#n0", 3);
        checkFault(true, "a#n0", 1);
        checkFault(true, "#n0a", 3);
        for (char sign = 0; sign < 0xffff; sign++) {
            if (sign < 600 || sign > 0xff00 || sign % 256 == ' ') {
                checkFault(true, "#n0" + sign + "b", sign == ' ' ? NO_FAULT : 3);
            }
        }
    }

    private static void termsPlainWords() {
        Check.sentence("Terms", "an item is a plain word, 1 to 10 small letters,");
        for (int letters = 1; letters <= 10; letters++) {
            checkFault(true, "z".repeat(letters), NO_FAULT);
            checkFault(true, "#v1 " + "a".repeat(letters) + " b", NO_FAULT);
        }
        checkFault(true, "a".repeat(11), 10);
        checkFault(true, "a".repeat(60), 10);
        checkFault(true, "abc " + "a".repeat(11), 14);
        checkFault(true, "a".repeat(10) + "#", 10);
        checkFault(true, "a".repeat(9) + "1", 9);
        for (char sign = 0; sign < 0xffff; sign++) {
            if (sign < 600 || sign > 0xff00 || sign % 256 == 'z') {
                boolean letter = sign >= 'a' && sign <= 'z';
                checkFault(true, "a " + sign, letter ? NO_FAULT : sign == '#' ? 3 : 2);
            }
        }
    }

    private static void termsHolesInTales() {
        Check.sentence("Terms", "or a hole: \"#\", \"n\", \"v\" or \"a\" for its kind, and a digit, its tie;");
        checkFault(true, "#", 1);
        checkFault(true, "#n", 2);
        checkFault(true, "#n ", 2);
        checkFault(true, "# n0", 1);
        checkFault(true, "##n0", 1);
        checkFault(true, "#0n", 1);
        checkFault(true, "#n00", 3);
        checkFault(true, "a #v", 4);
        for (char sign = 0; sign < 0xffff; sign++) {
            if (sign < 600 || sign > 0xff00 || sign % 256 == 'n' || sign % 256 == '9') {
                boolean kind = sign == 'n' || sign == 'v' || sign == 'a';
                checkFault(true, "#" + sign + "5", kind ? NO_FAULT : 1);
                checkFault(true, "#a" + sign, sign >= '0' && sign <= '9' ? NO_FAULT : 2);
            }
        }
    }

    private static void termsItemsInTales() {
        Check.sentence("Terms", "it has at most 20 items.");
        checkFault(true, "a ".repeat(19) + "b", NO_FAULT);
        checkFault(true, "a ".repeat(19) + "abcdefghij", NO_FAULT);
        checkFault(true, "a ".repeat(19) + "#n0", NO_FAULT);
        checkFault(true, "a ".repeat(20), 39);
        checkFault(true, "a ".repeat(20) + "b", 39);
        checkFault(true, "a ".repeat(20) + "B", 39);
        checkFault(true, "a ".repeat(19) + "#n0 c", 41);
        checkFault(true, "a ".repeat(30), 39);
        checkFault(true, "a ".repeat(19), 38);
    }

    private static void termsFault() {
        Check.sentence("Terms", "The fault of the text, read in one of both ways, is the index, from 0, of the first "
            + "character that is not allowed at its place, or the length of the text if it ends too early (the empty text "
            + "does).");
        checkFault(false, "", 0);
        checkFault(true, "", 0);
        checkFault(false, "A", 0);
        checkFault(true, "A", 0);
        checkFault(false, "abC D", 2);
        checkFault(true, "abC D", 2);
        checkFault(true, "a #n", 4);
        checkFault(true, "a #", 3);
        checkFault(true, "a ", 2);
        checkFault(true, "#n0 ".repeat(15), 60);
        checkFault(true, "#n0 ".repeat(14) + "ab #", 60);
        checkFault(true, "#n0 ".repeat(14) + "a #v", 60);
        checkFault(true, "#n0 ".repeat(14) + "#n0B", 59);
        checkFault(true, "#n0 ".repeat(14) + "abcd", NO_FAULT);
    }

    private static void promise10AnyCharacter() {
        Check.sentence("Promise 10", "Types a character behind the text. character: any character");
        TaleHoles x = new TaleHoles();
        char[] signs = {0, 1, '\n', ' ', '#', 'A', '_', 127, 128, 255, 256, 0xD800, 0xDFFF, 0xFFFE, 0xFFFF};
        for (int i = 0; i < signs.length; i++) {
            Check.due("type((char) " + (int) signs[i] + ")", x.type(signs[i]), i + 1);
        }
        x.clearText();
        Check.due("addWord(1, 0)", Check.word(x, "ab", 1, 0), 0);
        x.type('c');
        Check.due("behind the text", Check.spelt(x, x.addWord(1, 0), 0), "abc");
    }

    private static void promise10Returns() {
        Check.sentence("Promise 10", "Returns the length of the text then; FULL if it has 60 characters.");
        String tale = "abcdefghij ".repeat(5) + "abcde";
        TaleHoles x = new TaleHoles();
        Check.text(x, tale.substring(0, 59));
        Check.due("the 60th", x.type('e'), 60);
        Twins.Refused refused = new Twins.Refused(y -> {
            Twins.rich(y);
            Check.text(y, tale);
        });
        for (char sign : new char[] {'f', ' ', '#', 0, 0xFFFF}) {
            refused.due("type((char) " + (int) sign + ")", y -> y.type(sign), -3);
        }
        refused.changeNothing();
        Check.due("readTale()", x.readTale(), 0);
        Check.due("told", Check.told(x), tale);
        Check.due("clearText()", x.clearText(), 60);
        Check.due("there is room again", x.type('f'), 1);
        Check.due("it is no act", x.count(9), 1);
    }

    private static void promise11Returns() {
        Check.sentence("Promise 11", "Empties the text. Returns the length that it had.");
        TaleHoles x = new TaleHoles();
        Twins.rich(x);
        int states = x.count(9);
        Check.due("nine", x.clearText(), 9);
        Check.due("the empty text", x.clearText(), 0);
        Check.due("its fault as a stem", x.fault(false), 0);
        Check.due("its fault as a tale", x.fault(true), 0);
        Check.due("addWord(0, 0)", x.addWord(0, 0), -100);
        Check.due("one", x.type('z') * 10 + x.clearText(), 11);
        Check.text(x, "a".repeat(60));
        Check.due("sixty", x.clearText(), 60);
        Check.due("type('b')", x.type('b'), 1);
        Check.due("nothing of it is left", Check.spelt(x, x.addWord(1, 0), 0), "b");
        Check.due("the tale stays", Check.told(x), "the _ cats runcd _");
        Check.due("it is no act", states, 4);
        Twins.same("clearText() and the same text", y -> {
            Twins.rich(y);
            y.clearText();
            Check.text(y, "so #n1 be");
        }, Twins::rich);
    }

    private static void promise12Returns() {
        Check.sentence("Promise 12", "Tells the fault of the text. asTale: whether it is read as a tale, otherwise as a stem "
            + "Returns the index; NONE if it has none.");
        String[] texts = {"", "a", "#a1", "B", "ab #n", "a".repeat(60)};
        int[] asStem = {0, -5, 0, 0, 2, 8};
        int[] asTale = {0, -5, -5, 0, 5, 10};
        for (int i = 0; i < texts.length; i++) {
            String text = texts[i];
            Twins.Refused asked = new Twins.Refused(x -> {
                Twins.rich(x);
                Check.text(x, text);
            });
            asked.due("fault(false) of \"" + text + "\"", x -> x.fault(false), asStem[i]);
            asked.due("fault(true) of \"" + text + "\"", x -> x.fault(true), asTale[i]);
            asked.changeNothing();
        }
    }
}
