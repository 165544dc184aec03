/** What is told of the whole tale: promises 20, 23 and 24. */
final class ToldBoundaries {
    private ToldBoundaries() {
    }

    static void run() {
        promise20Returns();
        promise20Longest();
        promise23Longest();
        promise23GenderThatComesOut();
        promise23WithoutHolesForNouns();
        promise23DoesNotMatter();
        promise23Tie();
        promise23None();
        promise24What();
        promise24Most();
        promise24Fillings();
        promise24Returns();
    }

    private static void promise20Returns() {
        Check.sentence("Promise 20", "Tells a character of the tale. place: from 0 Returns the code of the character; "
            + "BAD_VALUE if place is negative; NONE if the tale is not so long.");
        Twins.Refused asked = new Twins.Refused(Twins::rich);
        String tale = "the _ cats runcd _";
        for (int place = 0; place < tale.length(); place++) {
            int at = place;
            asked.due("told(" + place + ")", x -> x.told(at), tale.charAt(place));
        }
        asked.due("behind the last", x -> x.told(tale.length()), -5);
        for (int place : Check.outside(tale.length())) {
            asked.due("told(" + place + ")", x -> x.told(place), place < 0 ? -2 : -5);
        }
        asked.changeNothing();
        TaleHoles x = new TaleHoles();
        Check.due("told(0) without a tale", x.told(0), -5);
        Check.due("told(-1) without a tale", x.told(-1), -2);
        Check.tale(x, "a");
        Check.due("told(0) of \"a\"", x.told(0), 97);
        Check.due("told(1) of \"a\"", x.told(1), -5);
        Check.tale(x, "z b");
        Check.due("told(0) of \"z b\"", x.told(0), 122);
        Check.due("told(1) of \"z b\"", x.told(1), 32);
        Check.due("told(2) of \"z b\"", x.told(2), 98);
        Check.due("told(3) of \"z b\"", x.told(3), -5);
    }

    private static void promise20Longest() {
        Check.sentence("Promise 20", "NONE if the tale is not so long.");
        TaleHoles x = new TaleHoles();
        Check.word(x, "abcdefgh", 1, 0);
        x.setEnding(1, 5, 25, 26);
        x.setTie(0, 1, 2);
        Check.tale(x, "#v0 ".repeat(14) + "abcd");
        x.fillAll();
        Check.due("14 times ten, and four", Check.told(x), "abcdefghyz ".repeat(14) + "abcd");
        Check.due("the last", x.told(157), 100);
        Check.due("behind it", x.told(158), -5);
        Check.tale(x, "#v0 ".repeat(14) + "#v0");
        x.fillAll();
        Check.due("the last of 15 times ten", x.told(163), 122);
        Check.due("behind it", x.told(164), -5);
    }

    private static void promise23Longest() {
        Check.sentence("Promise 23", "Tells how long a tie could be: the letters of all its holes together, if each of them "
            + "had the longest (or the shortest) word of its kind in the form that would be its then, with one gender for "
            + "all of its nouns;");
        TaleHoles x = new TaleHoles();
        Check.word(x, "a", 0, 1);
        Check.word(x, "abcdefgh", 0, 1);
        Check.word(x, "abc", 0, 2);
        Check.word(x, "abcd", 0, 2);
        Check.word(x, "b", 1, 0);
        Check.word(x, "bcdefghi", 1, 0);
        Check.tale(x, "so #n1 #n1 #v1 #v2 #n3");
        Check.due("the longest of each, gender 1", x.tieCould(1, true), 8 + 8 + 8);
        Check.due("the shortest of each, gender 1", x.tieCould(1, false), 1 + 1 + 1);
        x.setEnding(0, 1, 1, 2);
        x.setEnding(1, 4, 3, 0);
        x.setTie(1, 1, 1);
        Check.due("in the form, longest", x.tieCould(1, true), 10 + 10 + 9);
        Check.due("in the form, shortest", x.tieCould(1, false), 3 + 3 + 2);
        Check.due("another tie, longest", x.tieCould(2, true), 8);
        Check.due("another tie, shortest", x.tieCould(2, false), 1);
        Check.tale(x, "#n0 ".repeat(14) + "#n0");
        Check.due("fifteen holes, longest", x.tieCould(0, true), 120);
        Check.due("fifteen holes, shortest", x.tieCould(0, false), 15);
    }

    private static void promise23GenderThatComesOut() {
        Check.sentence("Promise 23", "the gender is that with which the longest (or the shortest) comes out");
        for (int chosen = 0; chosen < 3; chosen++) {
            TaleHoles x = new TaleHoles();
            Check.word(x, "ab", 0, 0);
            Check.word(x, "ab", 0, 1);
            Check.word(x, "ab", 0, 2);
            Check.word(x, "x", 2, 0);
            Check.tale(x, "#n4 #a4 #a4");
            Check.due("all alike, longest", x.tieCould(4, true), 4);
            Check.due("all alike, shortest", x.tieCould(4, false), 4);
            x.setEnding(2, chosen, 1, 1);
            Check.due("longest by the gender " + chosen, x.tieCould(4, true), 2 + 3 + 3);
            Check.due("shortest by another", x.tieCould(4, false), 4);
            x.setEnding(2, chosen, 0, 0);
            x.setEnding(2, (chosen + 1) % 3, 1, 0);
            x.setEnding(2, (chosen + 2) % 3, 2, 2);
            Check.due("longest by the gender " + (chosen + 2) % 3, x.tieCould(4, true), 2 + 3 + 3);
            Check.due("shortest by the gender " + chosen, x.tieCould(4, false), 4);
        }
        TaleHoles x = new TaleHoles();
        Check.word(x, "abcdefgh", 0, 0);
        Check.word(x, "ab", 0, 1);
        Check.word(x, "x", 2, 0);
        Check.tale(x, "#n4 #a4 #a4");
        x.setEnding(2, 1, 1, 1);
        Check.due("the noun outweighs its adjectives", x.tieCould(4, true), 8 + 1 + 1);
        Check.due("and is not the shortest", x.tieCould(4, false), 2 + 3 + 3);
        x.setEnding(2, 2, 1, 1);
        Check.due("a gender without nouns is none", x.tieCould(4, true), 8 + 1 + 1);
    }

    private static void promise23WithoutHolesForNouns() {
        Check.sentence("Promise 23", "(0 if it has no holes for nouns).");
        TaleHoles x = new TaleHoles();
        Check.word(x, "big", 2, 0);
        Check.word(x, "cat", 0, 1);
        Check.tale(x, "#a2 #n1");
        x.setEnding(2, 1, 1, 1);
        x.setEnding(2, 5, 1, 1);
        Check.due("longest", x.tieCould(2, true), 3);
        x.setEnding(2, 0, 1, 0);
        Check.due("shortest", x.tieCould(2, false), 4);
        x.setTie(2, 1, 0);
        Check.due("longest, several", x.tieCould(2, true), 3);
        x.setEnding(2, 3, 1, 1);
        Check.due("shortest, several", x.tieCould(2, false), 5);
    }

    private static void promise23DoesNotMatter() {
        Check.sentence("Promise 23", "What is in the holes, and the setting 0, do not matter; numbers and tenses are those "
            + "of now.");
        TaleHoles x = new TaleHoles();
        Check.word(x, "ab", 0, 0);
        Check.word(x, "abcdef", 0, 1);
        Check.word(x, "go", 1, 0);
        Check.tale(x, "#n1 #n1 #v1 #v1");
        x.setEnding(0, 1, 1, 0);
        x.setEnding(1, 2, 1, 0);
        x.setEnding(1, 3, 1, 1);
        Check.due("longest", x.tieCould(1, true), 16);
        Check.due("shortest", x.tieCould(1, false), 8);
        x.fillAll();
        Check.due("longest, with nouns of the gender 0", x.tieCould(1, true), 16);
        x.empty(1);
        x.fill(0, 1);
        Check.due("shortest, with a noun of the gender 1", x.tieCould(1, false), 8);
        x.set(1);
        Check.due("longest, each once", x.tieCould(1, true), 16);
        Check.due("shortest, each once", x.tieCould(1, false), 8);
        x.setTie(1, 0, 2);
        Check.due("the tense 2", x.tieCould(1, true), 18);
        x.setTie(1, 1, 0);
        Check.due("the number 1", x.tieCould(1, false), 3 + 3 + 4 + 4);
    }

    private static void promise23Tie() {
        Check.sentence("Promise 23", "tie: 0 to 9 longest: whether the longest is told, otherwise the shortest "
            + "Returns how many letters; UNKNOWN;");
        Twins.Refused asked = new Twins.Refused(Twins::rich);
        for (int tie : Check.outside(9)) {
            asked.due("tieCould(" + tie + ", true)", x -> x.tieCould(tie, true), -1);
            asked.due("tieCould(" + tie + ", false)", x -> x.tieCould(tie, false), -1);
        }
        asked.due("tieCould(1, true)", x -> x.tieCould(1, true), 6 + 6 + 3);
        asked.due("tieCould(1, false)", x -> x.tieCould(1, false), 4 + 4 + 5);
        asked.changeNothing();
        TaleHoles x = new TaleHoles();
        Check.word(x, "go", 1, 0);
        Check.tale(x, "#v0 #v9 #v9");
        Check.due("tieCould(0, true)", x.tieCould(0, true), 2);
        Check.due("tieCould(9, false)", x.tieCould(9, false), 4);
    }

    private static void promise23None() {
        Check.sentence("Promise 23", "NONE if some hole of it has no word of its kind, or there is no gender of which there "
            + "is a noun, though it has holes for nouns (a tie without holes has 0).");
        TaleHoles x = new TaleHoles();
        Check.due("a tie without holes, no words", x.tieCould(0, true), 0);
        Check.due("a tie without holes, no words", x.tieCould(9, false), 0);
        Check.tale(x, "#n1 #v2 #a3 #n4 #v4 #a4");
        for (int tie = 1; tie <= 4; tie++) {
            Check.due("no words, longest of " + tie, x.tieCould(tie, true), -5);
            Check.due("no words, shortest of " + tie, x.tieCould(tie, false), -5);
        }
        Check.due("a tie without holes", x.tieCould(5, false), 0);
        Check.word(x, "go", 1, 0);
        Check.due("a verb", x.tieCould(2, true), 2);
        Check.due("no noun, though holes for nouns", x.tieCould(1, false), -5);
        Check.word(x, "x", 2, 0);
        Check.due("no noun, though verb and adjective", x.tieCould(4, true), -5);
        Check.word(x, "abc", 0, 2);
        Check.due("a noun of one gender", x.tieCould(4, false), 6);
        x.undo();
        Check.due("no noun any more", x.tieCould(4, false), -5);
        TaleHoles y = new TaleHoles();
        Check.word(y, "abc", 0, 1);
        Check.word(y, "x", 2, 0);
        Check.tale(y, "#n1 #v1 #a1");
        Check.due("noun and adjective, no verb, longest", y.tieCould(1, true), -5);
        Check.due("noun and adjective, no verb, shortest", y.tieCould(1, false), -5);
        Check.tale(y, "#a1 #n1 #v2");
        Check.due("another tie's hole does not matter", y.tieCould(1, false), 4);
    }

    private static void promise24What() {
        Check.sentence("Promise 24", "what: 0 for words, 1 for items of the tale, 2 for holes, 3 for empty ones, 4 for the "
            + "characters of the tale as it is told, 5 for letters in holes, 6 for ties that have holes, 7 for the setting "
            + "0, 8 for fillings so far, by fill() and by fillAll(), 9 for the states in the history, 10 for the length of "
            + "the text");
        TaleHoles x = new TaleHoles();
        Twins.rich(x);
        checkCounts(x, 5, 5, 4, 2, 18, 9, 2, 0, 2, 4, 9);
        x.set(1);
        x.fillAll();
        checkCounts(x, 5, 5, 4, 0, 25, 18, 2, 1, 4, 4, 9);
        Check.tale(x, "a");
        checkCounts(x, 5, 1, 0, 0, 1, 0, 0, 1, 4, 4, 1);
    }

    private static void checkCounts(TaleHoles x, int... due) {
        for (int what = 0; what <= 10; what++) {
            Check.due("count(" + what + ")", x.count(what), due[what]);
        }
    }

    private static void promise24Most() {
        Check.sentence("Promise 24", "6 for ties that have holes");
        TaleHoles x = new TaleHoles();
        for (int word = 0; word < 24; word++) {
            Check.word(x, "abcdefgh", 1, 0);
        }
        x.setEnding(1, 0, 1, 1);
        Check.tale(x, "#v0 #v1 #v2 #v3 #v4 #v5 #v6 #v7 #v8 #v9 #v0 #v9 a b c d");
        x.fillAll();
        checkCounts(x, 24, 16, 12, 0, 139, 120, 10, 0, 12, 4, 55);
        Check.tale(x, "a ".repeat(14) + "#v9 a b c d #v9");
        checkCounts(x, 24, 20, 2, 2, 39, 0, 1, 0, 12, 4, 43);
    }

    private static void promise24Fillings() {
        Check.sentence("Promise 24", "8 for fillings so far, by fill() and by fillAll()");
        TaleHoles x = new TaleHoles();
        Check.word(x, "go", 1, 0);
        Check.word(x, "run", 1, 0);
        Check.tale(x, "#v0 #v1 #v2 #a3");
        int fillings = 0;
        for (int round = 0; round < 20; round++) {
            x.fillAll();
            x.fill(1, 1);
            x.fill(1, 1);
            x.empty(0);
            x.fill(3, 0);
            fillings += round == 0 ? 5 : 3;
            Check.due("fillings in round " + round, x.count(8), fillings);
        }
        Check.tale(x, "a");
        Check.due("they stay with another tale", x.count(8), fillings);
    }

    private static void promise24Returns() {
        Check.sentence("Promise 24", "Returns the number; BAD_VALUE.");
        Twins.Refused refused = new Twins.Refused(Twins::rich);
        for (int what : Check.outside(10)) {
            refused.due("count(" + what + ")", x -> x.count(what), -2);
        }
        refused.changeNothing();
    }
}
