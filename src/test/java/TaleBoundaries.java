/** Tales and ties: the terms of TALES, HOLES, TIES on items and ties, and promises 4, 5, 9 and 19. */
final class TaleBoundaries {
    private TaleBoundaries() {
    }

    static void run() {
        termsItems();
        termsAtMost20Items();
        termsHoles();
        termsTies();
        termsTieAtFirst();
        promise4Takes();
        promise4Act();
        promise4Returns();
        promise5Act();
        promise5Tie();
        promise5Number();
        promise5Tense();
        promise5Returns();
        promise9Act();
        promise9WordsStay();
        promise9Once();
        promise9Returns();
        promise19What();
        promise19Errors();
    }

    private static void termsItems() {
        Check.sentence("Terms", "A tale has items, one behind the other, with a blank between two as it is told: "
            + "plain words, and holes.");
        TaleHoles x = new TaleHoles();
        String[] texts = {"a", "#n0", "a b", "#n0 #v1", "so #a2 it", "#a2 it #n9"};
        String[] due = {"a", "_", "a b", "_ _", "so _ it", "_ it _"};
        for (int i = 0; i < texts.length; i++) {
            Check.tale(x, texts[i]);
            Check.due("told of \"" + texts[i] + "\"", Check.told(x), due[i]);
            Check.due("its length", x.count(4), due[i].length());
        }
    }

    private static void termsAtMost20Items() {
        Check.sentence("Terms", "It has at most 20 items; at first it has none.");
        TaleHoles x = new TaleHoles();
        Check.due("count(1)", x.count(1), 0);
        Check.due("told(0)", x.told(0), -5);
        Check.due("19 items", Check.tale(x, "a ".repeat(18) + "b"), 0);
        Check.due("count(1)", x.count(1), 19);
        Check.due("20 items", Check.tale(x, "a ".repeat(19) + "#v7"), 1);
        Check.due("count(1)", x.count(1), 20);
        Check.due("the item of the hole", x.hole(0, 5), 19);
        Check.due("told", Check.told(x), "a ".repeat(19) + "_");
        Check.due("21 items", Check.tale(x, "a ".repeat(20) + "b"), -139);
        Check.due("21 items, the last a hole", Check.tale(x, "a ".repeat(20) + "#n0"), -139);
        Check.due("count(1)", x.count(1), 20);
    }

    private static void termsHoles() {
        Check.sentence("Terms", "A hole has a kind and a tie, 0 to 9; holes are numbered from 0 in the order of the tale.");
        TaleHoles x = new TaleHoles();
        Check.due("ten holes", Check.tale(x, "x #n9 #v8 #a7 #n6 y #v5 #a4 #n3 #v2 z #a1 #n0"), 10);
        int[] items = {1, 2, 3, 4, 6, 7, 8, 9, 11, 12};
        for (int hole = 0; hole < 10; hole++) {
            Check.due("hole(" + hole + ", 0)", x.hole(hole, 0), hole % 3);
            Check.due("hole(" + hole + ", 1)", x.hole(hole, 1), 9 - hole);
            Check.due("hole(" + hole + ", 5)", x.hole(hole, 5), items[hole]);
        }
        Check.due("hole(10, 0)", x.hole(10, 0), -1);
        Check.due("fifteen holes, as many as the text has room for", Check.tale(x, "#n0 ".repeat(14) + "#n9"), 15);
        Check.due("hole(14, 1)", x.hole(14, 1), 9);
        Check.due("hole(15, 1)", x.hole(15, 1), -1);
    }

    private static void termsTies() {
        Check.sentence("Terms", "Holes with the same tie are tied to one another: they agree.");
        TaleHoles x = new TaleHoles();
        Check.word(x, "n", 0, 2);
        Check.word(x, "v", 1, 0);
        Check.word(x, "a", 2, 0);
        for (int kind = 0; kind < 3; kind++) {
            for (int form = 0; form < 6; form++) {
                x.setEnding(kind, form, 1 + form, 0);
            }
        }
        Check.tale(x, "#a0 #n0 #v0 #a9 #n9 #v9");
        x.setTie(9, 1, 1);
        x.fillAll();
        Check.due("each tie agrees for itself", Check.told(x), "ac na va af nb ve");
        x.empty(1);
        Check.due("a noun less in the tie 0", Check.told(x), "aa _ va af nb ve");
        x.setTie(0, 1, 2);
        Check.due("the tie 0 in another form", Check.told(x), "ad _ vf af nb ve");
    }

    private static void termsTieAtFirst() {
        Check.sentence("Terms", "A tie has a number (0 at first) and a tense (0 at first), and a gender: that of the nouns "
            + "in its holes; if none of its holes has a noun, the gender 0.");
        TaleHoles x = new TaleHoles();
        for (int tie = 0; tie < 10; tie++) {
            Check.due("tie(" + tie + ", 0)", x.tie(tie, 0), 0);
            Check.due("tie(" + tie + ", 1)", x.tie(tie, 1), 0);
            Check.due("tie(" + tie + ", 2)", x.tie(tie, 2), 0);
        }
        Check.word(x, "cat", 0, 2);
        Check.word(x, "dog", 0, 1);
        Check.word(x, "big", 2, 0);
        Check.tale(x, "#a3 #n3 #n3 #n4");
        Check.due("holes without words", x.tie(3, 2), 0);
        x.fill(0, 2);
        Check.due("an adjective alone", x.tie(3, 2), 0);
        x.fill(2, 0);
        Check.due("a noun in the last hole", x.tie(3, 2), 2);
        x.fill(1, 0);
        x.empty(2);
        Check.due("a noun in the first hole for one", x.tie(3, 2), 2);
        x.fill(1, 1);
        Check.due("another in its place", x.tie(3, 2), 1);
        x.empty(1);
        Check.due("no noun any more", x.tie(3, 2), 0);
        Check.due("another tie", x.tie(4, 2), 0);
    }

    private static void promise4Takes() {
        Check.sentence("Promise 4", "Takes the tale of the text, which stays, in place of the one that was; all its holes "
            + "are empty; ties stay as they are set.");
        TaleHoles x = new TaleHoles();
        Twins.rich(x);
        Check.tale(x, "the #a1 #n1 #v2 #n1");
        Check.due("the text stays", x.count(10), 19);
        Check.due("it has no fault", x.fault(true), -5);
        Check.due("the same tale: its holes are empty", Check.told(x), "the _ _ _ _");
        Check.due("empty ones", x.count(3), 4);
        Check.due("it can be read again", x.readTale(), 4);
        Check.due("the tie 1", 3 * x.tie(1, 0) + x.tie(1, 1), 4);
        Check.due("the tie 2", 3 * x.tie(2, 0) + x.tie(2, 1), 5);
        Check.due("a shorter tale", Check.tale(x, "#v9"), 1);
        Check.due("items", x.count(1), 1);
        Check.due("the hole that was", x.hole(1, 0), -1);
        Check.due("told", Check.told(x), "_");
        Check.due("ties that have no holes now", 3 * x.tie(2, 0) + x.tie(2, 1), 5);
        Check.due("no holes", Check.tale(x, "abcdefghij"), 0);
        Check.due("the hole that was", x.hole(0, 0), -1);
        Check.due("clearText()", x.clearText(), 10);
        x.type('#');
        Check.due("the tale has letters of its own", Check.told(x), "abcdefghij");
    }

    private static void promise4Act() {
        Check.sentence("Promise 4", "This is an act.");
        Twins.act("readTale()", TaleHoles::readTale);
        Twins.act("the same tale again", x -> {
            Check.tale(x, "#n0");
            x.undo();
            x.readTale();
        }, TaleHoles::readTale);
        Twins.act("a tale without holes", x -> {
            Twins.richWithThreeStates(x);
            Check.text(x, "a");
        }, TaleHoles::readTale);
    }

    private static void promise4Returns() {
        Check.sentence("Promise 4", "Returns how many holes it has; -100 minus the fault of the text, read as a tale, if it "
            + "has one (which is an error).");
        String[] whole = {"a", "#n0", "a #v1", "#n0 ".repeat(14) + "#a9", "a ".repeat(19) + "b"};
        int[] holes = {0, 1, 1, 15, 0};
        TaleHoles x = new TaleHoles();
        for (int i = 0; i < whole.length; i++) {
            Check.due("readTale() of \"" + whole[i] + "\"", Check.tale(x, whole[i]), holes[i]);
        }
        String[] faulty = {"", " ", "#", "#n", "a ", "#n0a", "abcdefghijk", "a ".repeat(20), "#n0 ".repeat(15), "a".repeat(60)};
        int[] due = {-100, -100, -101, -102, -102, -103, -110, -139, -160, -110};
        for (int i = 0; i < faulty.length; i++) {
            String text = faulty[i];
            Twins.Refused refused = new Twins.Refused(y -> {
                Twins.rich(y);
                Check.text(y, text);
            });
            refused.due("readTale() of \"" + text + "\"", TaleHoles::readTale, due[i]);
            refused.changeNothing();
        }
    }

    private static void promise5Act() {
        Check.sentence("Promise 5", "Sets the number and the tense of a tie. This is an act.");
        Twins.act("setTie(1, 0, 2)", x -> x.setTie(1, 0, 2));
        Twins.act("setTie(9, 0, 1), a tie without holes", x -> x.setTie(9, 0, 1));
        TaleHoles x = new TaleHoles();
        Twins.rich(x);
        x.setTie(1, 0, 2);
        Check.due("number and tense", x.tie(1, 0) * 3 + x.tie(1, 1), 2);
        Check.due("another tie's", x.tie(2, 0) * 3 + x.tie(2, 1), 5);
    }

    private static void promise5Tie() {
        Check.sentence("Promise 5", "tie: 0 to 9");
        Twins.Refused refused = new Twins.Refused(Twins::rich);
        for (int tie : Check.outside(9)) {
            refused.due("setTie(" + tie + ", 1, 1)", x -> x.setTie(tie, 1, 1), -1);
        }
        refused.changeNothing();
        TaleHoles x = new TaleHoles();
        Check.due("setTie(0, 1, 1)", x.setTie(0, 1, 1), 0);
        Check.due("setTie(9, 1, 2)", x.setTie(9, 1, 2), 0);
        Check.due("tie 0", x.tie(0, 0) * 3 + x.tie(0, 1), 4);
        Check.due("tie 1", x.tie(1, 0) * 3 + x.tie(1, 1), 0);
        Check.due("tie 8", x.tie(8, 0) * 3 + x.tie(8, 1), 0);
        Check.due("tie 9", x.tie(9, 0) * 3 + x.tie(9, 1), 5);
    }

    private static void promise5Number() {
        Check.sentence("Promise 5", "number: 0 or 1");
        Twins.Refused refused = new Twins.Refused(Twins::rich);
        for (int number : Check.outside(1)) {
            refused.due("setTie(0, " + number + ", 0)", x -> x.setTie(0, number, 0), -2);
            refused.due("setTie(0, " + number + ", 1)", x -> x.setTie(0, number, 1), -2);
        }
        refused.changeNothing();
        TaleHoles x = new TaleHoles();
        Check.due("setTie(3, 1, 0)", x.setTie(3, 1, 0), 0);
        Check.due("setTie(3, 0, 0)", x.setTie(3, 0, 0), 3);
    }

    private static void promise5Tense() {
        Check.sentence("Promise 5", "tense: 0 to 2");
        Twins.Refused refused = new Twins.Refused(Twins::rich);
        for (int tense : Check.outside(2)) {
            refused.due("setTie(0, 0, " + tense + ")", x -> x.setTie(0, 0, tense), -2);
            refused.due("setTie(0, 1, " + tense + ")", x -> x.setTie(0, 1, tense), -2);
        }
        refused.changeNothing();
        TaleHoles x = new TaleHoles();
        Check.due("setTie(3, 0, 2)", x.setTie(3, 0, 2), 0);
        Check.due("setTie(3, 0, 0)", x.setTie(3, 0, 0), 2);
    }

    private static void promise5Returns() {
        Check.sentence("Promise 5", "Returns 3 times the previous number, and the previous tense; UNKNOWN; BAD_VALUE; "
            + "NONE if both are so already.");
        TaleHoles x = new TaleHoles();
        int previous = 0;
        int[] forms = {5, 0, 1, 4, 3, 2};
        for (int form : forms) {
            Check.due("form " + form, x.setTie(4, form / 3, form % 3), previous);
            Check.due("form " + form + " again", x.setTie(4, form / 3, form % 3), -5);
            previous = form;
        }
        Check.due("tie before number and tense", x.setTie(10, 2, 3), -1);
        Check.due("tie before none", x.setTie(-1, 0, 0), -1);
        Twins.Refused refused = new Twins.Refused(Twins::rich);
        refused.due("setTie(1, 1, 1)", y -> y.setTie(1, 1, 1), -5);
        refused.due("setTie(0, 0, 0)", y -> y.setTie(0, 0, 0), -5);
        refused.changeNothing();
    }

    private static void promise9Act() {
        Check.sentence("Promise 9", "Sets the setting 0.");
        Check.sentence("Promise 9", "This is an act.");
        Twins.act("set(1)", x -> x.set(1));
        Twins.act("set(0)", x -> {
            Twins.richWithThreeStates(x);
            x.undo();
            x.set(1);
        }, x -> x.set(0));
    }

    private static void promise9WordsStay() {
        Check.sentence("Promise 9", "Words that are in holes stay.");
        TaleHoles x = new TaleHoles();
        Twins.rich(x);
        x.fill(3, 0);
        Check.due("set(1)", x.set(1), 0);
        Check.due("one word in two holes", Check.told(x), "the _ cats runcd cats");
        Check.due("word(0, 3)", x.word(0, 3), 2);
        Check.due("set(0)", x.set(0), 1);
        Check.due("told", Check.told(x), "the _ cats runcd cats");
    }

    private static void promise9Once() {
        Check.sentence("Promise 9", "once: 0 or 1");
        Twins.Refused refused = new Twins.Refused(Twins::rich);
        for (int once : Check.outside(1)) {
            refused.due("set(" + once + ")", x -> x.set(once), -2);
        }
        refused.changeNothing();
    }

    private static void promise9Returns() {
        Check.sentence("Promise 9", "Returns the previous value; BAD_VALUE; NONE if it is so already.");
        TaleHoles x = new TaleHoles();
        Check.due("set(0) at first", x.set(0), -5);
        Check.due("set(1)", x.set(1), 0);
        Check.due("set(1) again", x.set(1), -5);
        Check.due("set(2)", x.set(2), -2);
        Check.due("set(0)", x.set(0), 1);
        Check.due("set(0) again", x.set(0), -5);
        Twins.Refused refused = new Twins.Refused(Twins::rich);
        refused.due("set(0)", y -> y.set(0), -5);
        refused.changeNothing();
    }

    private static void promise19What() {
        Check.sentence("Promise 19", "tie: 0 to 9 what: 0 for its number, 1 for its tense, 2 for its gender, 3 for its "
            + "holes (how many), 4 for those that are empty, 5 for whether any of them has a noun (1, otherwise 0)");
        TaleHoles x = new TaleHoles();
        Check.word(x, "cat", 0, 2);
        Check.word(x, "go", 1, 0);
        Check.word(x, "ox", 0, 0);
        Check.tale(x, "#n9 ".repeat(13) + "#v9 #n0");
        x.setTie(9, 1, 2);
        checkTie(x, 9, 1, 2, 0, 14, 14, 0);
        checkTie(x, 0, 0, 0, 0, 1, 1, 0);
        checkTie(x, 1, 0, 0, 0, 0, 0, 0);
        x.fill(13, 1);
        checkTie(x, 9, 1, 2, 0, 14, 13, 0);
        x.fill(12, 0);
        checkTie(x, 9, 1, 2, 2, 14, 12, 1);
        x.fill(14, 2);
        checkTie(x, 0, 0, 0, 0, 1, 0, 1);
        x.fillAll();
        checkTie(x, 9, 1, 2, 2, 14, 0, 1);
        Check.tale(x, "#n9 #n9");
        x.fill(0, 0);
        checkTie(x, 9, 1, 2, 2, 2, 1, 1);
        x.fill(1, 0);
        x.empty(0);
        checkTie(x, 9, 1, 2, 2, 2, 1, 1);
    }

    private static void checkTie(TaleHoles x, int tie, int... due) {
        for (int what = 0; what < 6; what++) {
            Check.due("tie(" + tie + ", " + what + ")", x.tie(tie, what), due[what]);
        }
    }

    private static void promise19Errors() {
        Check.sentence("Promise 19", "Returns the number; UNKNOWN; BAD_VALUE.");
        Twins.Refused refused = new Twins.Refused(Twins::rich);
        for (int tie : Check.outside(9)) {
            refused.due("tie(" + tie + ", 0)", x -> x.tie(tie, 0), -1);
            refused.due("tie(" + tie + ", 6)", x -> x.tie(tie, 6), -1);
        }
        for (int what : Check.outside(5)) {
            refused.due("tie(9, " + what + ")", x -> x.tie(9, what), -2);
        }
        refused.changeNothing();
    }
}
