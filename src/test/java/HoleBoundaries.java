/** Holes and what fits: the terms of TALES, HOLES, TIES on them, and promises 6, 7, 8, 18, 21 and 22. */
final class HoleBoundaries {
    private HoleBoundaries() {
    }

    static void run() {
        termsWordOfItsKind();
        termsSameGender();
        termsForm();
        termsEmptyHole();
        termsReasons();
        termsHoleItself();
        promise6InPlace();
        promise6Act();
        promise6HoleAndWord();
        promise6Returns();
        promise7Act();
        promise7Returns();
        promise8OneAfterTheOther();
        promise8NoneFits();
        promise8Act();
        promise8Returns();
        promise18What();
        promise18Errors();
        promise21Returns();
        promise22Returns();
    }

    /** Words 0 to 3 are a noun of the gender 0, a noun of the gender 1, a verb and an adjective. */
    private static TaleHoles withTale(String tale) {
        TaleHoles x = new TaleHoles();
        Check.word(x, "ox", 0, 0);
        Check.word(x, "cat", 0, 1);
        Check.word(x, "go", 1, 0);
        Check.word(x, "big", 2, 0);
        Check.tale(x, tale);
        return x;
    }

    private static void termsWordOfItsKind() {
        Check.sentence("Terms", "A hole is empty, or has a word of its kind.");
        TaleHoles x = withTale("#n0 #v1 #a2");
        int[] kinds = {0, 0, 1, 2};
        for (int hole = 0; hole < 3; hole++) {
            Check.due("hole(" + hole + ", 2)", x.hole(hole, 2), -5);
            for (int word = 0; word < 4; word++) {
                boolean ofItsKind = kinds[word] == hole;
                int due = ofItsKind ? (word == 1 ? 0 : 100) : -11;
                Check.due("fill(" + hole + ", " + word + ")", x.fill(hole, word), due);
            }
        }
        Check.due("told", Check.told(x), "cat go big");
    }

    private static void termsSameGender() {
        Check.sentence("Terms", "All nouns in holes of a tie have the same gender.");
        TaleHoles x = withTale("#n5 #n5 #n5 #n6");
        x.fill(1, 1);
        Check.due("another gender in front of it", x.fill(0, 0), -12);
        Check.due("another gender behind it", x.fill(2, 0), -12);
        Check.due("another tie", x.fill(3, 0), 100);
        Check.due("what is filled by itself", x.fillAll(), 2);
        Check.due("told", Check.told(x), "cat cat cat ox");
        Check.due("one of three", x.fill(0, 0), -12);
        x.empty(2);
        x.empty(1);
        Check.due("the only one", x.fill(0, 0), 1);
        Check.due("now that gender", x.fill(1, 1), -12);
    }

    private static void termsForm() {
        Check.sentence("Terms", "A word is told in the form that the number, the tense and the gender of its tie give.");
        TaleHoles x = withTale("#n1 #v1 #a1 #a2");
        x.setEnding(0, 1, 19, 0);
        x.setEnding(1, 5, 20, 0);
        x.setEnding(2, 4, 21, 0);
        x.setEnding(2, 1, 22, 0);
        x.fillAll();
        Check.due("0, 0, 0", Check.told(x), "ox go big big");
        x.fill(0, 1);
        Check.due("0, 0, 1", Check.told(x), "cat go bigv big");
        x.setTie(1, 0, 2);
        Check.due("0, 2, 1", Check.told(x), "cat go bigv big");
        x.setTie(1, 1, 2);
        Check.due("1, 2, 1", Check.told(x), "cats got bigu big");
        x.setTie(2, 1, 2);
        Check.due("another tie has no gender", Check.told(x), "cats got bigu big");
    }

    private static void termsEmptyHole() {
        Check.sentence("Terms", "An empty hole is told as \"_\".");
        TaleHoles x = withTale("#n1");
        Check.due("told(0)", x.told(0), 95);
        Check.due("told(1)", x.told(1), -5);
        x.setEnding(0, 0, 1, 1);
        Check.due("it has no ending", Check.told(x), "_");
        x.fill(0, 0);
        Check.due("filled", Check.told(x), "oxaa");
        x.empty(0);
        Check.due("emptied", Check.told(x), "_");
    }

    private static void termsReasons() {
        Check.sentence("Terms", "A word does not fit into a hole for the first of these reasons that holds: 1 it is of "
            + "another kind; 2 it is a noun, and another hole of the tie has a noun of another gender; 3 it is in some "
            + "hole of the tale already (if the setting 0 is 1; 0 or 1, 0 at first).");
        TaleHoles x = withTale("#n0 #n0 #v0 #a0 #n9");
        x.fill(0, 0);
        x.fill(4, 1);
        Check.due("in another hole, the setting is 0 at first", x.reason(1, 0), 0);
        Check.due("of another kind", x.reason(3, 2), 1);
        Check.due("of another gender", x.reason(1, 1), 2);
        x.set(1);
        Check.due("in another hole", x.reason(1, 0), 3);
        Check.due("in a hole of another tie", x.reason(4, 0), 3);
        Check.due("1 before 3", x.reason(2, 0), 1);
        Check.due("1 before 2 and 3", x.reason(3, 1), 1);
        Check.due("2 before 3", x.reason(1, 1), 2);
        Check.due("a verb in no hole", x.reason(2, 2), 0);
        x.fill(2, 2);
        Check.due("a verb in a hole", x.reason(2, 2), 3);
        x.empty(4);
        Check.due("2 alone", x.reason(1, 1), 2);
        Check.due("a gender that no other hole has", x.reason(0, 1), 0);
        x.set(0);
        Check.due("the setting is 0 again", x.reason(1, 0), 0);
    }

    private static void termsHoleItself() {
        Check.sentence("Terms", "What is in the hole itself does not matter for the reason 2; for the reason 3 it does.");
        TaleHoles x = withTale("#n0 #n0");
        x.fill(0, 0);
        Check.due("the gender of what is in it", x.reason(0, 1), 0);
        Check.due("itself again", x.reason(0, 0), 0);
        x.set(1);
        Check.due("itself again, if once", x.reason(0, 0), 3);
        Check.due("fill(0, 0)", x.fill(0, 0), -13);
        Check.due("another gender, if once", x.reason(0, 1), 0);
        Check.due("fill(0, 1)", x.fill(0, 1), 0);
    }

    private static void promise6InPlace() {
        Check.sentence("Promise 6", "Fills a word into a hole, in place of what is in it.");
        TaleHoles x = withTale("#n0 #n1 #n2");
        Check.due("into an empty one", x.fill(1, 1), 100);
        Check.due("in place of a word", x.fill(1, 0), 1);
        Check.due("in place of itself", x.fill(1, 0), 0);
        Check.due("told", Check.told(x), "_ ox _");
        Check.due("the word that was", x.word(1, 3), 0);
        Check.due("the word that is", x.word(0, 3), 1);
    }

    private static void promise6Act() {
        Check.sentence("Promise 6", "This is an act.");
        Twins.act("fill(0, 2)", x -> x.fill(0, 2));
        Twins.act("fill(1, 3), in place of a word", x -> x.fill(1, 3));
        Twins.act("fill(1, 0), the same word", x -> x.fill(1, 0));
    }

    private static void promise6HoleAndWord() {
        Check.sentence("Promise 6", "hole: a hole word: a word");
        Twins.Refused refused = new Twins.Refused(Twins::rich);
        for (int hole : Check.outside(3)) {
            refused.due("fill(" + hole + ", 0)", x -> x.fill(hole, 0), -1);
        }
        for (int word : Check.outside(4)) {
            refused.due("fill(0, " + word + ")", x -> x.fill(0, word), -1);
        }
        refused.due("fill(-1, -1)", x -> x.fill(-1, -1), -1);
        refused.changeNothing();
        TaleHoles x = new TaleHoles();
        Twins.rich(x);
        Check.due("the first hole", x.fill(0, 2), 100);
        Check.due("the last hole and word", x.fill(3, 4), 100);
        Check.due("the first word", x.fill(1, 0), 0);
    }

    private static void promise6Returns() {
        Check.sentence("Promise 6", "Returns the word that was in it, or 100 if it was empty; UNKNOWN (hole or word); "
            + "REFUSED minus the reason.");
        TaleHoles x = withTale("#n0 #n0");
        Check.due("it was empty", x.fill(0, 0), 100);
        Check.due("the word 0 was in it", x.fill(0, 1), 0);
        Check.due("the word 1 was in it", x.fill(0, 0), 1);
        Check.due("hole before the reason", x.fill(2, 2), -1);
        Check.due("word before the reason", x.fill(0, 4), -1);
        Twins.Refused refused = new Twins.Refused(y -> {
            Twins.rich(y);
            y.set(1);
        });
        refused.due("reason 1", y -> y.fill(0, 0), -11);
        refused.due("reason 1, a verb", y -> y.fill(3, 1), -11);
        refused.due("reason 2", y -> y.fill(3, 3), -12);
        refused.due("reason 3", y -> y.fill(3, 0), -13);
        refused.due("reason 3, the hole itself", y -> y.fill(2, 1), -13);
        refused.changeNothing();
    }

    private static void promise7Act() {
        Check.sentence("Promise 7", "Empties a hole. This is an act.");
        Twins.act("empty(1)", x -> x.empty(1));
        Twins.act("empty(2)", x -> x.empty(2));
        TaleHoles x = new TaleHoles();
        Twins.rich(x);
        x.empty(2);
        Check.due("only this one", Check.told(x), "the _ cats _ _");
        Check.due("fillings stay", x.count(8), 2);
    }

    private static void promise7Returns() {
        Check.sentence("Promise 7", "hole: a hole Returns the word that was in it; UNKNOWN; NONE if it is empty.");
        TaleHoles x = withTale("#n0 #n0 #a0");
        x.fillAll();
        Check.due("the word 0", x.empty(1), 0);
        Check.due("the word 3", x.empty(2), 3);
        Check.due("it is empty now", x.empty(2), -5);
        Twins.Refused refused = new Twins.Refused(Twins::rich);
        for (int hole : Check.outside(3)) {
            refused.due("empty(" + hole + ")", y -> y.empty(hole), -1);
        }
        refused.due("empty(0)", y -> y.empty(0), -5);
        refused.due("empty(3), the last one", y -> y.empty(3), -5);
        refused.changeNothing();
    }

    private static void promise8OneAfterTheOther() {
        Check.sentence("Promise 8", "Fills all empty holes, one after the other by their numbers, each with the lowest word "
            + "that fits then (those for which none fits stay empty).");
        TaleHoles x = withTale("#n0 #n0 #a0 #n1");
        Check.word(x, "cow", 0, 1);
        Check.word(x, "red", 2, 0);
        x.fill(1, 4);
        Check.due("the gender decides", x.fillAll(), 3);
        Check.due("told", Check.told(x), "cat cow big ox");
        x.set(1);
        Check.tale(x, "#n0 #n0 #a0 #n1 #n1 #n2 #a9 #a9 #v0");
        Check.due("each once", x.fillAll(), 6);
        Check.due("told", Check.told(x), "ox _ big cat cow _ red _ go");
        TaleHoles y = withTale("#n0 #n0");
        y.fill(1, 1);
        y.set(1);
        Check.due("the lowest is of another gender, the next in a hole", y.fillAll(), -5);
        Check.due("told", Check.told(y), "_ cat");
    }

    private static void promise8NoneFits() {
        Check.sentence("Promise 8", "(those for which none fits stay empty)");
        TaleHoles x = new TaleHoles();
        Check.word(x, "go", 1, 0);
        Check.tale(x, "#a0 ".repeat(14) + "#v0");
        Check.due("the last of fifteen", x.fillAll(), 1);
        Check.due("told", Check.told(x), "_ ".repeat(14) + "go");
        Check.tale(x, "#v0 " + "#n0 ".repeat(13) + "#n0");
        Check.due("the first of fifteen", x.fillAll(), 1);
        Check.due("told", Check.told(x), "go" + " _".repeat(14));
    }

    private static void promise8Act() {
        Check.sentence("Promise 8", "This is an act.");
        Twins.act("fillAll()", TaleHoles::fillAll);
        Twins.act("fillAll() of fifteen", x -> {
            Check.word(x, "go", 1, 0);
            Check.tale(x, "#v0 ".repeat(14) + "#v9");
        }, TaleHoles::fillAll);
    }

    private static void promise8Returns() {
        Check.sentence("Promise 8", "Returns how many are filled; NONE if none is.");
        TaleHoles x = withTale("#v0 ".repeat(14) + "#v9");
        Check.due("fifteen", x.fillAll(), 15);
        Check.due("none is empty", x.fillAll(), -5);
        x.empty(14);
        Check.due("one", x.fillAll(), 1);
        Check.due("fillings", x.count(8), 16);
        Check.tale(x, "a");
        Check.due("no holes", x.fillAll(), -5);
        Twins.Refused full = new Twins.Refused(y -> {
            Twins.rich(y);
            y.fillAll();
        });
        full.due("no empty hole", TaleHoles::fillAll, -5);
        full.changeNothing();
        Twins.Refused unfit = new Twins.Refused(y -> {
            Check.word(y, "go", 1, 0);
            Check.tale(y, "#n0 #a1");
        });
        unfit.due("none fits", TaleHoles::fillAll, -5);
        unfit.changeNothing();
    }

    private static void promise18What() {
        Check.sentence("Promise 18", "hole: a hole what: 0 for its kind, 1 for its tie, 2 for its word (NONE if it is "
            + "empty), 3 for the form in which a word in it is told, 4 for the letters of its word in that form (0 if it "
            + "is empty), 5 for its item, from 0");
        TaleHoles x = withTale("#v9 a #n0 #a0");
        x.setEnding(0, 0, 1, 1);
        x.setEnding(2, 4, 2, 0);
        x.setTie(9, 1, 2);
        checkHole(x, 0, 1, 9, -5, 5, 0, 0);
        checkHole(x, 1, 0, 0, -5, 0, 0, 2);
        checkHole(x, 2, 2, 0, -5, 0, 0, 3);
        x.fillAll();
        checkHole(x, 0, 1, 9, 2, 5, 2, 0);
        checkHole(x, 1, 0, 0, 0, 0, 4, 2);
        checkHole(x, 2, 2, 0, 3, 0, 3, 3);
        x.fill(1, 1);
        x.setTie(0, 1, 0);
        checkHole(x, 1, 0, 0, 1, 1, 3, 2);
        checkHole(x, 2, 2, 0, 3, 4, 4, 3);
        x.empty(2);
        checkHole(x, 2, 2, 0, -5, 4, 0, 3);
    }

    private static void checkHole(TaleHoles x, int hole, int... due) {
        for (int what = 0; what < 6; what++) {
            Check.due("hole(" + hole + ", " + what + ")", x.hole(hole, what), due[what]);
        }
    }

    private static void promise18Errors() {
        Check.sentence("Promise 18", "Returns the number; UNKNOWN; BAD_VALUE.");
        Twins.Refused refused = new Twins.Refused(Twins::rich);
        for (int hole : Check.outside(3)) {
            refused.due("hole(" + hole + ", 2)", x -> x.hole(hole, 2), -1);
            refused.due("hole(" + hole + ", 6)", x -> x.hole(hole, 6), -1);
        }
        for (int what : Check.outside(5)) {
            refused.due("hole(3, " + what + ")", x -> x.hole(3, what), -2);
        }
        refused.changeNothing();
    }

    private static void promise21Returns() {
        Check.sentence("Promise 21", "Tells why a word does not fit into a hole. hole: a hole word: a word Returns 0 if it "
            + "does; otherwise the reason 1 to 3; UNKNOWN (hole or word).");
        Twins.Refused asked = new Twins.Refused(x -> {
            Twins.rich(x);
            x.set(1);
        });
        for (int hole : Check.outside(3)) {
            asked.due("reason(" + hole + ", 0)", x -> x.reason(hole, 0), -1);
        }
        for (int word : Check.outside(4)) {
            asked.due("reason(3, " + word + ")", x -> x.reason(3, word), -1);
        }
        asked.due("it fits", x -> x.reason(3, 4), 0);
        asked.due("an adjective fits", x -> x.reason(0, 2), 0);
        asked.due("reason 1", x -> x.reason(0, 0), 1);
        asked.due("reason 2", x -> x.reason(3, 3), 2);
        asked.due("reason 3", x -> x.reason(3, 0), 3);
        asked.changeNothing();
    }

    private static void promise22Returns() {
        Check.sentence("Promise 22", "Tells the words that fit into a hole. hole: a hole Returns the words, as a set; UNKNOWN.");
        Twins.Refused asked = new Twins.Refused(Twins::rich);
        for (int hole : Check.outside(3)) {
            asked.due("fits(" + hole + ")", x -> x.fits(hole), -1);
        }
        asked.due("adjectives", x -> x.fits(0), 1 << 2);
        asked.due("nouns of any gender, the hole itself", x -> x.fits(1), 1 | 1 << 3 | 1 << 4);
        asked.due("nouns of the gender 1", x -> x.fits(3), 1 | 1 << 4);
        asked.changeNothing();
        TaleHoles x = new TaleHoles();
        Check.tale(x, "#v0 #v0");
        Check.due("of no words", x.fits(0), 0);
        x.clearText();
        x.type('a');
        for (int word = 0; word < 24; word++) {
            x.addWord(1, 0);
            Check.due("of " + (word + 1) + " words", x.fits(0), (1 << (word + 1)) - 1);
        }
        x.fill(1, 23);
        x.set(1);
        Check.due("all but the word 23", x.fits(0), (1 << 23) - 1);
    }
}
