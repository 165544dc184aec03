/** The errors and their order: the terms of ERRORS, and the last call that is promised. */
final class ErrorBoundaries {
    private ErrorBoundaries() {
    }

    static void run() {
        termsConstants();
        termsOrder();
        termsNone();
        termsNothingChanges();
        lastCalls();
    }

    private static void termsConstants() {
        Check.sentence("Terms", "Errors are reported by the constants below.");
        Check.sentence("Terms", "The constants: UNKNOWN = -1: There is no such word, kind, hole, tie or item.");
        Check.due("UNKNOWN", TaleHoles.UNKNOWN, -1);
        Check.sentence("Terms", "BAD_VALUE = -2: Another argument is out of range.");
        Check.due("BAD_VALUE", TaleHoles.BAD_VALUE, -2);
        Check.sentence("Terms", "FULL = -3: There is no more room.");
        Check.due("FULL", TaleHoles.FULL, -3);
        Check.sentence("Terms", "NONE = -5: There is no such thing; not an error.");
        Check.due("NONE", TaleHoles.NONE, -5);
        Check.sentence("Terms", "REFUSED = -10: A word does not fit: this minus the reason is returned.");
        Check.due("REFUSED", TaleHoles.REFUSED, -10);
    }

    private static void termsOrder() {
        Check.sentence("Terms", "Where several errors can apply, the order of the @return line is the order of the checks.");
        TaleHoles x = new TaleHoles();
        Twins.rich(x);
        Check.due("addWord: kind, gender, fault", x.addWord(3, 3), -1);
        Check.due("addWord: gender, fault", x.addWord(0, 3), -2);
        Check.due("setEnding: kind, form, letters", x.setEnding(3, 6, 27, 27), -1);
        Check.due("setTie: tie, number, tense", x.setTie(10, 2, 3), -1);
        Check.due("fill: hole, reason", x.fill(4, 0), -1);
        Check.due("fill: word, reason", x.fill(0, 5), -1);
        Check.due("word: word, what", x.word(5, 4), -1);
        Check.due("letter: word, form, place", x.letter(5, 6, -1), -1);
        Check.due("hole: hole, what", x.hole(4, 6), -1);
        Check.due("tie: tie, what", x.tie(10, 6), -1);
    }

    private static void termsNone() {
        Check.sentence("Terms", "NONE is no error; it is returned only if no error applies.");
        TaleHoles x = new TaleHoles();
        Twins.rich(x);
        Check.due("setEnding: kind, as it is", x.setEnding(3, 0, 0, 0), -1);
        Check.due("setEnding: form, as it is", x.setEnding(0, 6, 0, 0), -2);
        Check.due("setTie: tie, as it is", x.setTie(10, 0, 0), -1);
        Check.due("empty: hole, as it is", x.empty(4), -1);
        Check.due("letter: word, not so many", x.letter(5, 0, 99), -1);
        Check.due("letter: form, not so many", x.letter(0, 6, 99), -2);
        Check.due("hole: hole, empty", x.hole(4, 2), -1);
        Check.due("tieCould: tie, no word", x.tieCould(10, true), -1);
        Check.due("told: negative, not so long", new TaleHoles().told(-1), -2);
    }

    private static void termsNothingChanges() {
        Check.sentence("Terms", "A call that returns an error or NONE changes nothing.");
        Twins.Refused refused = new Twins.Refused(x -> {
            Twins.rich(x);
            Check.text(x, "#n1 ");
            x.set(1);
        });
        refused.due("addWord(3, 0)", x -> x.addWord(3, 0), -1);
        refused.due("addWord(1, 1)", x -> x.addWord(1, 1), -2);
        refused.due("addWord(1, 0)", x -> x.addWord(1, 0), -100);
        refused.due("setEnding(3, 0, 1, 1)", x -> x.setEnding(3, 0, 1, 1), -1);
        refused.due("setEnding(0, 0, 0, 1)", x -> x.setEnding(0, 0, 0, 1), -2);
        refused.due("setEnding(0, 1, 19, 0)", x -> x.setEnding(0, 1, 19, 0), -5);
        refused.due("readTale()", TaleHoles::readTale, -104);
        refused.due("setTie(10, 1, 1)", x -> x.setTie(10, 1, 1), -1);
        refused.due("setTie(0, 1, 3)", x -> x.setTie(0, 1, 3), -2);
        refused.due("setTie(0, 2, 1)", x -> x.setTie(0, 2, 1), -2);
        refused.due("setTie(2, 1, 2)", x -> x.setTie(2, 1, 2), -5);
        refused.due("fill(4, 0)", x -> x.fill(4, 0), -1);
        refused.due("fill(0, 5)", x -> x.fill(0, 5), -1);
        refused.due("fill(0, 1)", x -> x.fill(0, 1), -11);
        refused.due("fill(3, 3)", x -> x.fill(3, 3), -12);
        refused.due("fill(3, 0)", x -> x.fill(3, 0), -13);
        refused.due("empty(4)", x -> x.empty(4), -1);
        refused.due("empty(3)", x -> x.empty(3), -5);
        refused.due("set(2)", x -> x.set(2), -2);
        refused.due("set(1)", x -> x.set(1), -5);
        refused.changeNothing();
    }

    private static void lastCalls() {
        Check.sentence("What it is", "An object is used for at most 512 calls after it has been made;");
        TaleHoles x = new TaleHoles();
        x.type('a');
        x.addWord(1, 0);
        x.clearText();
        x.type('#');
        x.type('v');
        x.type('0');
        x.readTale();
        for (int call = 8; call < 511; call++) {
            x.fill(0, 0);
        }
        Check.due("count(8), the 511th call", x.count(8), 503);
        Check.due("fill(0, 0), the 512th call", x.fill(0, 0), 0);
        TaleHoles y = new TaleHoles();
        for (int call = 1; call <= 510; call++) {
            Check.due("set, call " + call, y.set(call % 2), 1 - call % 2);
        }
        Check.due("undo(), the 511th call", y.undo(), 3);
        Check.due("count(7), the 512th call", y.count(7), 1);
    }
}
