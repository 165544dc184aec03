/** Words and endings: the terms of WORDS, and promises 1, 2, 3, 16 and 17. */
final class WordBoundaries {
    private WordBoundaries() {
    }

    static void run() {
        termsThreeKinds();
        termsAtMost24();
        termsStemAndGender();
        termsStemAndEnding();
        termsForms();
        termsFormsOfNouns();
        termsEndings();
        promise1Empty();
        promise2Stem();
        promise2Act();
        promise2Kind();
        promise2Gender();
        promise2Order();
        promise2Fault();
        promise2Full();
        promise3Act();
        promise3Kind();
        promise3Form();
        promise3First();
        promise3Second();
        promise3Returns();
        promise16What();
        promise16Errors();
        promise17Letter();
        promise17Errors();
    }

    /** Words 0, 1 and 2 are a noun, a verb and an adjective of one stem. */
    private static TaleHoles oneOfEach(String stem, int gender) {
        TaleHoles x = new TaleHoles();
        Check.text(x, stem);
        x.addWord(0, gender);
        x.addWord(1, 0);
        x.addWord(2, 0);
        return x;
    }

    private static void fill24(TaleHoles x) {
        for (int word = 0; word < 24; word++) {
            Check.word(x, "" + (char) ('a' + word), word % 3, 0);
        }
    }

    private static void termsThreeKinds() {
        Check.sentence("Terms", "There are three kinds of words: 0 nouns, 1 verbs, 2 adjectives.");
        TaleHoles x = oneOfEach("ab", 0);
        Check.tale(x, "#n0 #v0 #a0");
        for (int kind = 0; kind < 3; kind++) {
            Check.due("word(" + kind + ", 0)", x.word(kind, 0), kind);
            Check.due("fits(" + kind + ")", x.fits(kind), 1 << kind);
        }
        Check.due("addWord(3, 0)", x.addWord(3, 0), -1);
        Check.due("addWord(-1, 0)", x.addWord(-1, 0), -1);
    }

    private static void termsAtMost24() {
        Check.sentence("Terms", "At most 24 words are known, numbered from 0 in the order in which they came.");
        TaleHoles x = new TaleHoles();
        for (int word = 0; word < 24; word++) {
            Check.due("word " + word, Check.word(x, "" + (char) ('a' + word), 1, 0), word);
        }
        Check.due("word 24", Check.word(x, "y", 1, 0), -3);
        Check.due("count(0)", x.count(0), 24);
        for (int word = 0; word < 24; word++) {
            Check.due("letter(" + word + ", 0, 0)", x.letter(word, 0, 0), word + 1);
        }
        Check.due("letter(24, 0, 0)", x.letter(24, 0, 0), -1);
    }

    private static void termsStemAndGender() {
        Check.sentence("Terms", "A word has a kind, a stem (1 to 8 small letters), and, if it is a noun, a gender, 0 to 2 "
            + "(0 for other kinds, and without any meaning).");
        TaleHoles x = new TaleHoles();
        Check.due("no letter", Check.word(x, "", 1, 0), -100);
        Check.due("one letter", Check.word(x, "a", 0, 0), 0);
        Check.due("eight letters", Check.word(x, "abcdefgh", 0, 2), 1);
        Check.due("nine letters", Check.word(x, "abcdefghi", 0, 0), -108);
        Check.due("another sign as the eighth", Check.word(x, "abcdefg1", 0, 0), -107);
        Check.due("a verb", Check.word(x, "go", 1, 0), 2);
        Check.due("an adjective", Check.word(x, "big", 2, 0), 3);
        Check.tale(x, "#n0 #v0 #a0");
        x.fill(0, 1);
        Check.due("a verb beside a noun of the gender 2", x.fill(1, 2), 100);
        Check.due("an adjective beside it", x.fill(2, 3), 100);
        Check.due("the gender", x.tie(0, 2), 2);
        x.empty(0);
        Check.due("the gender without it", x.tie(0, 2), 0);
        Check.due("whether there is a noun", x.tie(0, 5), 0);
        Check.due("a noun of another gender beside verb and adjective", x.fill(0, 0), 100);
    }

    private static void termsStemAndEnding() {
        Check.sentence("Terms", "A word is told by its stem and an ending.");
        TaleHoles x = new TaleHoles();
        Check.word(x, "z", 0, 0);
        Check.word(x, "abcdefgh", 0, 0);
        Check.tale(x, "#n0 #n0");
        x.fillAll();
        x.fill(1, 1);
        Check.due("without an ending", Check.told(x), "z abcdefgh");
        x.setEnding(0, 0, 26, 0);
        Check.due("with one letter", Check.told(x), "zz abcdefghz");
        x.setEnding(0, 0, 1, 26);
        Check.due("with two letters", Check.told(x), "zaz abcdefghaz");
    }

    private static void termsForms() {
        Check.sentence("Terms", "Each kind has six endings, by its forms, 0 to 5: the form of a noun is its number (0 one, "
            + "1 several); the form of a verb is 3 times the number, and the tense (0 to 2); the form of an adjective is "
            + "3 times the number, and the gender.");
        TaleHoles x = oneOfEach("x", 0);
        Check.word(x, "x", 0, 1);
        Check.word(x, "x", 0, 2);
        for (int kind = 0; kind < 3; kind++) {
            for (int form = 0; form < 6; form++) {
                x.setEnding(kind, form, 1 + kind, 1 + form);
            }
        }
        Check.tale(x, "#n0 #v0 #a0");
        x.fillAll();
        int[] nouns = {0, 3, 4};
        for (int number = 0; number < 2; number++) {
            for (int other = 0; other < 3; other++) {
                x.setTie(0, number, 2 - other);
                x.fill(0, nouns[other]);
                String due = "xa" + (char) ('a' + number) + " xb" + (char) ('a' + 3 * number + 2 - other)
                    + " xc" + (char) ('a' + 3 * number + other);
                Check.due("number " + number + ", tense " + (2 - other) + ", gender " + other, Check.told(x), due);
            }
        }
    }

    private static void termsFormsOfNouns() {
        Check.sentence("Terms", "(The forms 2 to 5 of nouns are never used.)");
        TaleHoles x = oneOfEach("ox", 2);
        for (int form = 2; form < 6; form++) {
            x.setEnding(0, form, 26, 26);
        }
        Check.tale(x, "#n0 #v0 #a0");
        x.fillAll();
        for (int form = 0; form < 6; form++) {
            x.setTie(0, form / 3, form % 3);
            Check.due("told in form " + form, Check.told(x), "ox ox ox");
            Check.due("hole(0, 3)", x.hole(0, 3), form / 3);
            Check.due("hole(0, 4)", x.hole(0, 4), 2);
            Check.due("tieCould(0, true)", x.tieCould(0, true), 6);
        }
    }

    private static void termsEndings() {
        Check.sentence("Terms", "An ending has 0 to 2 letters; all have none at first.");
        for (int kind = 0; kind < 3; kind++) {
            TaleHoles x = oneOfEach("q", 0);
            for (int form = 0; form < 6; form++) {
                Check.due("at first", Check.spelt(x, kind, form), "q");
                Check.due("the previous one", x.setEnding(kind, form, 1, 0), 0);
                Check.due("one letter", Check.spelt(x, kind, form), "qa");
                Check.due("two letters", x.setEnding(kind, form, 26, 1), 27);
                Check.due("two letters", Check.spelt(x, kind, form), "qza");
                Check.due("no letter", x.setEnding(kind, form, 0, 0), 27 * 26 + 1);
                Check.due("no letter", Check.spelt(x, kind, form), "q");
            }
        }
    }

    private static void promise1Empty() {
        Check.sentence("Promise 1", "Creates an empty tale, and no words.");
        TaleHoles x = new TaleHoles();
        for (int what = 0; what <= 10; what++) {
            Check.due("count(" + what + ")", x.count(what), 0);
        }
        Check.due("told(0)", x.told(0), -5);
        Check.due("hole(0, 0)", x.hole(0, 0), -1);
        Check.due("fits(0)", x.fits(0), -1);
        Check.due("empty(0)", x.empty(0), -1);
        Check.due("fillAll()", x.fillAll(), -5);
        Check.due("word(0, 0)", x.word(0, 0), -1);
        Check.due("letter(0, 0, 0)", x.letter(0, 0, 0), -1);
        Check.due("fill(0, 0)", x.fill(0, 0), -1);
        Check.due("reason(0, 0)", x.reason(0, 0), -1);
    }

    private static void promise2Stem() {
        Check.sentence("Promise 2", "A word comes, whose stem is the text, which stays.");
        TaleHoles x = new TaleHoles();
        Check.text(x, "abcdefgh");
        Check.due("addWord(0, 0)", x.addWord(0, 0), 0);
        Check.due("count(10)", x.count(10), 8);
        Check.due("addWord(1, 0)", x.addWord(1, 0), 1);
        Check.due("clearText()", x.clearText(), 8);
        x.type('z');
        Check.due("addWord(2, 0)", x.addWord(2, 0), 2);
        Check.due("the first one's stem", Check.spelt(x, 0, 0), "abcdefgh");
        Check.due("the same text again", Check.spelt(x, 1, 0), "abcdefgh");
        Check.due("a shorter text", Check.spelt(x, 2, 0), "z");
        Check.due("word(2, 2)", x.word(2, 2), 1);
    }

    private static void promise2Act() {
        Check.sentence("Promise 2", "This is an act.");
        Twins.act("addWord(0, 2)", x -> {
            Twins.richWithThreeStates(x);
            Check.text(x, "so");
        }, x -> x.addWord(0, 2));
        Twins.act("the first addWord(2, 0)", x -> x.type('b'), x -> x.addWord(2, 0));
    }

    private static void promise2Kind() {
        Check.sentence("Promise 2", "kind: 0 to 2");
        Twins.Refused refused = new Twins.Refused(Twins::rich);
        for (int kind : Check.outside(2)) {
            refused.due("addWord(" + kind + ", 0)", x -> x.addWord(kind, 0), -1);
        }
        refused.changeNothing();
        TaleHoles x = new TaleHoles();
        x.type('a');
        Check.due("addWord(0, 0)", x.addWord(0, 0), 0);
        Check.due("addWord(2, 0)", x.addWord(2, 0), 1);
    }

    private static void promise2Gender() {
        Check.sentence("Promise 2", "gender: 0 to 2 for a noun, 0 for another kind");
        Twins.Refused refused = new Twins.Refused(x -> {
            Twins.rich(x);
            Check.text(x, "so");
        });
        for (int gender : Check.outside(2)) {
            refused.due("addWord(0, " + gender + ")", x -> x.addWord(0, gender), -2);
        }
        for (int gender : Check.outside(0)) {
            refused.due("addWord(1, " + gender + ")", x -> x.addWord(1, gender), -2);
            refused.due("addWord(2, " + gender + ")", x -> x.addWord(2, gender), -2);
        }
        refused.changeNothing();
        TaleHoles x = new TaleHoles();
        x.type('a');
        for (int gender = 0; gender < 3; gender++) {
            Check.due("addWord(0, " + gender + ")", x.addWord(0, gender), gender);
            Check.due("word(" + gender + ", 1)", x.word(gender, 1), gender);
        }
        Check.due("addWord(1, 0)", x.addWord(1, 0), 3);
        Check.due("addWord(2, 0)", x.addWord(2, 0), 4);
    }

    private static void promise2Order() {
        Check.sentence("Promise 2", "Returns its number; UNKNOWN (kind); BAD_VALUE (gender);");
        TaleHoles x = new TaleHoles();
        Check.due("kind, gender and fault", x.addWord(3, 3), -1);
        Check.due("kind and fault", x.addWord(-1, 0), -1);
        Check.due("gender and fault", x.addWord(0, 3), -2);
        Check.due("a verb's gender and fault", x.addWord(1, 1), -2);
        Check.due("fault alone", x.addWord(0, 2), -100);
        Check.due("the number 0", Check.word(x, "a", 0, 2), 0);
        fill24(x);
        Check.due("all: kind", Check.word(x, "1", 3, 3), -1);
        Check.due("gender, fault and full", x.addWord(2, 1), -2);
        Check.due("fault and full", x.addWord(0, 0), -100);
    }

    private static void promise2Fault() {
        Check.sentence("Promise 2", "-100 minus the fault of the text, read as a stem, if it has one (which is an error);");
        String[] texts = {"", "B", "a1", "abcdefg ", "abcdefgh ", "abcdefghi", "a".repeat(60), "#n0"};
        int[] due = {-100, -100, -101, -107, -108, -108, -108, -100};
        for (int i = 0; i < texts.length; i++) {
            String text = texts[i];
            Twins.Refused refused = new Twins.Refused(x -> {
                Twins.rich(x);
                Check.text(x, text);
            });
            refused.due("addWord(0, 0) of \"" + text + "\"", x -> x.addWord(0, 0), due[i]);
            refused.changeNothing();
        }
    }

    private static void promise2Full() {
        Check.sentence("Promise 2", "FULL if 24 are known.");
        Twins.Refused refused = new Twins.Refused(WordBoundaries::fill24);
        refused.due("addWord(0, 0)", x -> x.addWord(0, 0), -3);
        refused.due("addWord(1, 0)", x -> x.addWord(1, 0), -3);
        refused.changeNothing();
        TaleHoles x = new TaleHoles();
        fill24(x);
        Check.due("undo()", x.undo(), 3);
        Check.due("with 23", x.addWord(1, 0), 23);
        Check.due("with 24", x.addWord(1, 0), -3);
    }

    private static void promise3Act() {
        Check.sentence("Promise 3", "Sets an ending. This is an act.");
        Twins.act("setEnding(0, 1, 20, 5)", x -> x.setEnding(0, 1, 20, 5));
        Twins.act("setEnding(2, 4, 0, 0)", x -> x.setEnding(2, 4, 0, 0));
        Twins.act("setEnding(0, 5, 1, 0), which no noun uses", x -> x.setEnding(0, 5, 1, 0));
    }

    private static void promise3Kind() {
        Check.sentence("Promise 3", "kind: 0 to 2");
        Twins.Refused refused = new Twins.Refused(Twins::rich);
        for (int kind : Check.outside(2)) {
            refused.due("setEnding(" + kind + ", 0, 1, 1)", x -> x.setEnding(kind, 0, 1, 1), -1);
        }
        refused.changeNothing();
        TaleHoles x = new TaleHoles();
        Check.due("setEnding(0, 0, 1, 1)", x.setEnding(0, 0, 1, 1), 0);
        Check.due("setEnding(2, 0, 1, 1)", x.setEnding(2, 0, 1, 1), 0);
    }

    private static void promise3Form() {
        Check.sentence("Promise 3", "form: 0 to 5");
        Twins.Refused refused = new Twins.Refused(Twins::rich);
        for (int form : Check.outside(5)) {
            refused.due("setEnding(1, " + form + ", 1, 1)", x -> x.setEnding(1, form, 1, 1), -2);
        }
        refused.changeNothing();
        TaleHoles x = oneOfEach("a", 0);
        Check.due("setEnding(1, 0, 1, 1)", x.setEnding(1, 0, 1, 1), 0);
        Check.due("setEnding(1, 5, 2, 2)", x.setEnding(1, 5, 2, 2), 0);
        Check.due("form 0", Check.spelt(x, 1, 0), "aaa");
        Check.due("form 5", Check.spelt(x, 1, 5), "abb");
        Check.due("form 5 of the noun", Check.spelt(x, 0, 5), "a");
        Check.due("form 0 of the adjective", Check.spelt(x, 2, 0), "a");
    }

    private static void promise3First() {
        Check.sentence("Promise 3", "first: its first letter: 1 to 26 for \"a\" to \"z\", 0 for none");
        Twins.Refused refused = new Twins.Refused(Twins::rich);
        for (int first : Check.outside(26)) {
            refused.due("setEnding(1, 1, " + first + ", 1)", x -> x.setEnding(1, 1, first, 1), -2);
            refused.due("setEnding(1, 1, " + first + ", 0)", x -> x.setEnding(1, 1, first, 0), -2);
        }
        refused.changeNothing();
        TaleHoles x = oneOfEach("q", 0);
        x.setEnding(1, 1, 1, 0);
        Check.due("1", Check.spelt(x, 1, 1), "qa");
        x.setEnding(1, 1, 26, 0);
        Check.due("26", Check.spelt(x, 1, 1), "qz");
        x.setEnding(1, 1, 0, 0);
        Check.due("0", Check.spelt(x, 1, 1), "q");
    }

    private static void promise3Second() {
        Check.sentence("Promise 3", "second: its second letter, likewise; 0 if the first is 0");
        Twins.Refused refused = new Twins.Refused(Twins::rich);
        for (int second : Check.outside(26)) {
            refused.due("setEnding(1, 1, 1, " + second + ")", x -> x.setEnding(1, 1, 1, second), -2);
        }
        for (int second : Check.outside(0)) {
            refused.due("setEnding(1, 1, 0, " + second + ")", x -> x.setEnding(1, 1, 0, second), -2);
        }
        refused.changeNothing();
        TaleHoles x = oneOfEach("q", 0);
        x.setEnding(1, 1, 1, 26);
        Check.due("26", Check.spelt(x, 1, 1), "qaz");
        x.setEnding(1, 1, 1, 1);
        Check.due("1", Check.spelt(x, 1, 1), "qaa");
        x.setEnding(1, 1, 1, 0);
        Check.due("0", Check.spelt(x, 1, 1), "qa");
    }

    private static void promise3Returns() {
        Check.sentence("Promise 3", "Returns 27 times the first letter of the previous one, and its second letter; "
            + "UNKNOWN (kind); BAD_VALUE; NONE if it is so already.");
        TaleHoles x = new TaleHoles();
        Check.due("none after none", x.setEnding(1, 2, 0, 0), -5);
        Check.due("the first", x.setEnding(1, 2, 1, 0), 0);
        Check.due("as it is", x.setEnding(1, 2, 1, 0), -5);
        Check.due("after \"a\"", x.setEnding(1, 2, 1, 1), 27);
        Check.due("as it is", x.setEnding(1, 2, 1, 1), -5);
        Check.due("after \"aa\"", x.setEnding(1, 2, 26, 26), 28);
        Check.due("as it is", x.setEnding(1, 2, 26, 26), -5);
        Check.due("after \"zz\"", x.setEnding(1, 2, 26, 0), 728);
        Check.due("after \"z\"", x.setEnding(1, 2, 0, 0), 702);
        Check.due("kind before all", x.setEnding(3, 6, 27, 27), -1);
        Check.due("kind before none", x.setEnding(-1, 2, 0, 0), -1);
        Check.due("value before none", x.setEnding(1, 6, 0, 0), -2);
        Twins.Refused refused = new Twins.Refused(Twins::rich);
        refused.due("as it is", y -> y.setEnding(0, 1, 19, 0), -5);
        refused.due("none as it is", y -> y.setEnding(0, 0, 0, 0), -5);
        refused.changeNothing();
    }

    private static void promise16What() {
        Check.sentence("Promise 16", "word: a word what: 0 for its kind, 1 for its gender, 2 for the letters of its stem "
            + "(how many), 3 for holes that have it");
        TaleHoles x = new TaleHoles();
        Check.word(x, "a", 0, 2);
        Check.word(x, "abcdefgh", 2, 0);
        Check.tale(x, "#n0 ".repeat(14) + "#n1");
        x.setEnding(0, 0, 1, 1);
        int[][] due = {{0, 2, 1, 0}, {2, 0, 8, 0}};
        for (int word = 0; word < 2; word++) {
            for (int what = 0; what < 4; what++) {
                Check.due("word(" + word + ", " + what + ")", x.word(word, what), due[word][what]);
            }
        }
        x.fillAll();
        Check.due("in all fifteen holes", x.word(0, 3), 15);
        Check.due("in no hole", x.word(1, 3), 0);
        x.empty(14);
        Check.due("in fourteen", x.word(0, 3), 14);
        Check.tale(x, "a");
        Check.due("there is no hole", x.word(0, 3), 0);
    }

    private static void promise16Errors() {
        Check.sentence("Promise 16", "Returns the number; UNKNOWN; BAD_VALUE.");
        Twins.Refused refused = new Twins.Refused(Twins::rich);
        for (int word : Check.outside(4)) {
            refused.due("word(" + word + ", 3)", x -> x.word(word, 3), -1);
            refused.due("word(" + word + ", 4)", x -> x.word(word, 4), -1);
        }
        for (int what : Check.outside(3)) {
            refused.due("word(4, " + what + ")", x -> x.word(4, what), -2);
        }
        refused.changeNothing();
        TaleHoles x = new TaleHoles();
        fill24(x);
        Check.due("word(23, 0)", x.word(23, 0), 2);
        Check.due("word(24, 0)", x.word(24, 0), -1);
    }

    private static void promise17Letter() {
        Check.sentence("Promise 17", "Tells a letter of a word in a form. word: a word form: 0 to 5 place: from 0");
        TaleHoles x = oneOfEach("abcdefgh", 0);
        for (int kind = 0; kind < 3; kind++) {
            for (int form = 0; form < 6; form++) {
                x.setEnding(kind, form, 10 + form, kind == 1 ? 0 : 20 + form);
            }
        }
        for (int word = 0; word < 3; word++) {
            for (int form = 0; form < 6; form += 5) {
                String due = "abcdefgh" + (char) ('j' + form) + (word == 1 ? "" : (char) ('t' + form));
                Check.due("word " + word + " in form " + form, Check.spelt(x, word, form), due);
            }
        }
        Check.word(x, "z", 2, 0);
        Check.due("letter(3, 0, 0)", x.letter(3, 0, 0), 26);
        Check.due("letter(3, 0, 1)", x.letter(3, 0, 1), 10);
        Check.due("letter(3, 0, 2)", x.letter(3, 0, 2), 20);
        Check.due("letter(3, 0, 3)", x.letter(3, 0, 3), -5);
    }

    private static void promise17Errors() {
        Check.sentence("Promise 17", "Returns the letter, 1 to 26; UNKNOWN; BAD_VALUE (form, or place is negative); "
            + "NONE if it has not so many.");
        Twins.Refused refused = new Twins.Refused(Twins::rich);
        for (int value : Check.outside(5)) {
            refused.due("letter(" + value + ", 6, -1)", x -> x.letter(value, 6, -1), -1);
            refused.due("letter(0, " + value + ", 99)", x -> x.letter(0, value, 99), -2);
            int due = value < 0 ? -2 : -5;
            refused.due("letter(0, 1, " + value + ")", x -> x.letter(0, 1, value), due);
        }
        refused.due("letter(5, 0, 0)", x -> x.letter(5, 0, 0), -1);
        refused.due("letter(0, 6, 0)", x -> x.letter(0, 6, 0), -2);
        refused.due("letter(0, 1, 4), behind the ending", x -> x.letter(0, 1, 4), -5);
        refused.due("letter(0, 0, 3), behind the stem", x -> x.letter(0, 0, 3), -5);
        refused.changeNothing();
        TaleHoles x = new TaleHoles();
        Twins.rich(x);
        Check.due("the last of the stem", x.letter(0, 0, 2), 20);
        Check.due("the last of the ending", x.letter(0, 1, 3), 19);
        Check.due("the last of an ending of two", x.letter(1, 5, 4), 4);
        Check.due("behind it", x.letter(1, 5, 5), -5);
    }
}
