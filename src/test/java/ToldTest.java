/** Promises 18 to 24: what is told of holes, ties and the tale. */
public final class ToldTest {
    public static void main(String[] args) {
        promise18Hole();
        promise18Forms();
        promise19Tie();
        promise20Told();
        promise20EveryEdge();
        promise21Reason();
        promise22Fits();
        promise22AllWords();
        promise23TieCould();
        promise23GenderOfTheLongest();
        promise23WithoutNouns();
        promise23None();
        promise24Count();
        Check.end();
    }

    /** Words 0 and 1 are nouns of the genders 1 and 2, 2 is a verb, 3 an adjective. */
    private static TaleHoles withTale(String tale) {
        TaleHoles x = new TaleHoles();
        Check.word(x, "cat", 0, 1);
        Check.word(x, "dogge", 0, 2);
        Check.word(x, "run", 1, 0);
        Check.word(x, "big", 2, 0);
        Check.tale(x, tale);
        return x;
    }

    private static void promise18Hole() {
        TaleHoles x = withTale("the #a1 #n2 or #v9");
        int[][] due = {{2, 1, -5, 0, 0, 1}, {0, 2, -5, 0, 0, 2}, {1, 9, -5, 0, 0, 4}};
        for (int hole = 0; hole < 3; hole++) {
            for (int what = 0; what < 6; what++) {
                Check.due("18: hole(" + hole + ", " + what + ")", x.hole(hole, what), due[hole][what]);
            }
        }
        x.fill(1, 0);
        x.setEnding(0, 0, 5, 5);
        Check.due("18: word 0", x.hole(1, 2), 0);
        Check.due("18: letters", x.hole(1, 4), 5);
        x.setEnding(0, 0, 5, 0);
        Check.due("18: letters with a short ending", x.hole(1, 4), 4);
        x.fill(1, 1);
        Check.due("18: word 1", x.hole(1, 2), 1);
        Check.due("18: hole 3", x.hole(3, 0), -1);
        Check.due("18: hole 3, what 6", x.hole(3, 6), -1);
        Check.due("18: hole -1", x.hole(-1, 0), -1);
        Check.due("18: greatest hole", x.hole(Integer.MAX_VALUE, 0), -1);
        Check.due("18: what 6", x.hole(0, 6), -2);
        Check.due("18: what -1", x.hole(0, -1), -2);
    }

    private static void promise18Forms() {
        TaleHoles x = withTale("#n1 #v1 #a1 #a2");
        for (int number = 0; number < 2; number++) {
            for (int tense = 0; tense < 3; tense++) {
                x.setTie(1, number, tense);
                Check.due("18: noun's form", x.hole(0, 3), number);
                Check.due("18: verb's form", x.hole(1, 3), 3 * number + tense);
                Check.due("18: adjective's form, no noun", x.hole(2, 3), 3 * number);
                x.fill(0, 1);
                Check.due("18: adjective's form, gender 2", x.hole(2, 3), 3 * number + 2);
                x.fill(0, 0);
                Check.due("18: adjective's form, gender 1", x.hole(2, 3), 3 * number + 1);
                Check.due("18: noun's form", x.hole(0, 3), number);
                Check.due("18: verb's form", x.hole(1, 3), 3 * number + tense);
                Check.due("18: adjective of another tie", x.hole(3, 3), 0);
                x.empty(0);
            }
        }
        for (int form = 0; form < 6; form++) {
            x.setEnding(2, form, form + 1, form % 2);
        }
        x.fill(2, 3);
        Check.due("18: letters, form 3", x.hole(2, 4), 5);
        x.fill(0, 0);
        Check.due("18: letters, form 4", x.hole(2, 4), 4);
    }

    private static void promise19Tie() {
        TaleHoles x = withTale("#n1 #n1 #v1 #a1 #a0 so #n9");
        int[][] due = {{0, 0, 0, 1, 1, 0}, {0, 0, 0, 4, 4, 0}, {0, 0, 0, 0, 0, 0}};
        for (int tie = 0; tie < 3; tie++) {
            for (int what = 0; what < 6; what++) {
                Check.due("19: tie(" + tie + ", " + what + ")", x.tie(tie, what), due[tie][what]);
            }
        }
        x.setTie(1, 1, 2);
        x.fill(1, 1);
        x.fill(3, 3);
        int[] then = {1, 2, 2, 4, 2, 1};
        for (int what = 0; what < 6; what++) {
            Check.due("19: then tie(1, " + what + ")", x.tie(1, what), then[what]);
        }
        x.fill(1, 0);
        Check.due("19: gender 1", x.tie(1, 2), 1);
        x.empty(1);
        Check.due("19: no noun, an adjective", x.tie(1, 5) * 10 + x.tie(1, 2), 0);
        x.fill(5, 1);
        Check.due("19: another tie's gender", x.tie(9, 2), 2);
        Check.due("19: this one's stays", x.tie(1, 2), 0);
        Check.due("19: tie 10", x.tie(10, 0), -1);
        Check.due("19: tie 10, what 6", x.tie(10, 6), -1);
        Check.due("19: tie -1", x.tie(-1, 0), -1);
        Check.due("19: what 6", x.tie(0, 6), -2);
        Check.due("19: what -1", x.tie(0, -1), -2);
    }

    private static void promise20Told() {
        TaleHoles x = withTale("the #a1 #n1 and #v2 #v1");
        Check.due("20: empty holes", Check.told(x), "the _ _ and _ _");
        x.setEnding(2, 1, 5, 0);
        x.setEnding(2, 4, 5, 19);
        x.setEnding(0, 1, 19, 0);
        x.setEnding(1, 5, 26, 26);
        x.fill(0, 3);
        x.fill(3, 2);
        Check.due("20: without a noun", Check.told(x), "the big _ and _ run");
        x.fill(1, 0);
        Check.due("20: one", Check.told(x), "the bige cat and _ run");
        x.setTie(1, 1, 2);
        Check.due("20: several", Check.told(x), "the biges cats and _ runzz");
        x.fill(1, 1);
        Check.due("20: another gender", Check.told(x), "the big dogges and _ runzz");
        Check.due("20: its length", x.count(4), 26);
        Check.due("20: the last", x.told(25), 'z');
        Check.due("20: behind the last", x.told(26), -5);
        Check.due("20: far behind", x.told(Integer.MAX_VALUE), -5);
        Check.due("20: -1", x.told(-1), -2);
        Check.due("20: least", x.told(Integer.MIN_VALUE), -2);
    }

    private static void promise20EveryEdge() {
        TaleHoles x = new TaleHoles();
        Check.due("20: no tale", x.told(0), -5);
        Check.due("20: no tale, -1", x.told(-1), -2);
        Check.tale(x, "#n0");
        Check.due("20: one empty hole", Check.told(x), "_");
        Check.word(x, "abcdefgh", 0, 0);
        x.setEnding(0, 0, 9, 10);
        Check.tale(x, "#n0 ".repeat(14) + "#n0");
        Check.due("20: fifteen", x.fillAll(), 15);
        Check.due("20: the longest of all", Check.told(x), "abcdefghij ".repeat(14) + "abcdefghij");
        Check.due("20: its length", x.count(4), 164);
        Check.due("20: its letters", x.count(5), 150);
        Check.due("20: behind it", x.told(164), -5);
        Check.tale(x, "a");
        Check.due("20: one letter", Check.told(x), "a");
    }

    private static void promise21Reason() {
        TaleHoles x = withTale("#n1 #n1 #v1 #a1 #n2");
        Check.due("21: fits", x.reason(0, 0), 0);
        Check.due("21: kind", x.reason(0, 2), 1);
        Check.due("21: noun into a verb's hole", x.reason(2, 0), 1);
        Check.due("21: verb into an adjective's hole", x.reason(3, 2), 1);
        x.fill(1, 1);
        Check.due("21: gender", x.reason(0, 0), 2);
        Check.due("21: the same gender", x.reason(0, 1), 0);
        Check.due("21: the hole itself", x.reason(1, 0), 0);
        Check.due("21: another tie", x.reason(4, 0), 0);
        Check.due("21: a verb has no gender", x.reason(2, 2), 0);
        Check.due("21: an adjective has no gender", x.reason(3, 3), 0);
        x.set(1);
        Check.due("21: in some hole", x.reason(0, 1), 3);
        Check.due("21: in the hole itself", x.reason(1, 1), 3);
        Check.due("21: another hole's noun", x.reason(4, 1), 3);
        Check.due("21: gender is before", x.reason(0, 0), 2);
        Check.due("21: kind is before", x.reason(2, 1), 1);
        Check.due("21: in no hole", x.reason(4, 0), 0);
        Check.due("21: hole 5", x.reason(5, 0), -1);
        Check.due("21: hole -1", x.reason(-1, 0), -1);
        Check.due("21: word 4", x.reason(0, 4), -1);
        Check.due("21: word -1", x.reason(0, -1), -1);
        Check.due("21: nothing changes", x.count(3), 4);
    }

    private static void promise22Fits() {
        TaleHoles x = withTale("#n1 #n1 #v1 #a1 #n2");
        Check.due("22: nouns", x.fits(0), 3);
        Check.due("22: verbs", x.fits(2), 4);
        Check.due("22: adjectives", x.fits(3), 8);
        x.fill(1, 1);
        Check.due("22: nouns of the gender", x.fits(0), 2);
        Check.due("22: the hole itself", x.fits(1), 3);
        Check.due("22: another tie", x.fits(4), 3);
        x.set(1);
        Check.due("22: none", x.fits(0), 0);
        Check.due("22: but not what is in it", x.fits(1), 1);
        Check.due("22: another tie", x.fits(4), 1);
        Check.due("22: hole 5", x.fits(5), -1);
        Check.due("22: hole -1", x.fits(-1), -1);
    }

    private static void promise22AllWords() {
        TaleHoles x = new TaleHoles();
        Check.tale(x, "#v0 #n0");
        Check.due("22: no words", x.fits(0), 0);
        Check.text(x, "ab");
        for (int word = 0; word < 24; word++) {
            x.addWord(1, 0);
        }
        Check.due("22: all 24", x.fits(0), (1 << 24) - 1);
        Check.due("22: no nouns", x.fits(1), 0);
    }

    private static void promise23TieCould() {
        TaleHoles x = withTale("#n1 #n1 #v1 #a1 #v2 #a3");
        Check.word(x, "go", 1, 0);
        Check.due("23: longest", x.tieCould(1, true), 5 + 5 + 3 + 3);
        Check.due("23: shortest", x.tieCould(1, false), 3 + 3 + 2 + 3);
        Check.due("23: longest verb", x.tieCould(2, true), 3);
        Check.due("23: shortest verb", x.tieCould(2, false), 2);
        Check.due("23: without holes", x.tieCould(0, true) + x.tieCould(9, false), 0);
        x.setEnding(2, 0, 1, 1);
        Check.due("23: gender 0 without a noun's hole", x.tieCould(3, true), 5);
        Check.due("23: not with nouns of other genders", x.tieCould(1, true), 16);
        x.setEnding(1, 4, 1, 0);
        x.setEnding(0, 1, 1, 1);
        x.setTie(1, 1, 1);
        Check.due("23: number and tense", x.tieCould(1, true), 7 + 7 + 4 + 3);
        Check.due("23: number and tense, shortest", x.tieCould(1, false), 5 + 5 + 3 + 3);
        x.fill(0, 0);
        x.fill(2, 4);
        x.set(1);
        Check.due("23: what is in the holes does not matter", x.tieCould(1, true), 21);
        Check.due("23: nor for the shortest", x.tieCould(1, false), 16);
        Check.due("23: tie 10", x.tieCould(10, true), -1);
        Check.due("23: tie -1", x.tieCould(-1, false), -1);
    }

    private static void promise23GenderOfTheLongest() {
        TaleHoles x = withTale("#n1 #a1 #a1");
        x.setEnding(2, 1, 1, 1);
        Check.due("23: gender 1 is longest by its adjectives", x.tieCould(1, true), 3 + 5 + 5);
        Check.due("23: gender 2 is shortest by its adjectives", x.tieCould(1, false), 5 + 3 + 3);
        x.setEnding(2, 0, 2, 2);
        x.setEnding(2, 1, 0, 0);
        Check.due("23: there is no noun of gender 0", x.tieCould(1, true), 5 + 3 + 3);
        Check.due("23: shortest", x.tieCould(1, false), 3 + 3 + 3);
        Check.word(x, "a", 0, 0);
        Check.due("23: now there is", x.tieCould(1, true), 1 + 5 + 5);
        Check.due("23: it is not shortest", x.tieCould(1, false), 3 + 3 + 3);
    }

    private static void promise23WithoutNouns() {
        TaleHoles x = withTale("#a3 #n1 #a0");
        x.setEnding(2, 1, 1, 1);
        Check.due("23: the gender is 0, not the longest", x.tieCould(3, true), 3);
        x.setEnding(2, 1, 0, 0);
        x.setEnding(2, 0, 1, 0);
        Check.due("23: the gender is 0, not the shortest", x.tieCould(3, false), 4);
        Check.due("23: so it is for the tie 0", x.tieCould(0, false), 4);
        TaleHoles y = new TaleHoles();
        Check.word(y, "ab", 0, 0);
        Check.word(y, "abc", 0, 0);
        Check.tale(y, "#n0");
        Check.due("23: nouns of the gender 0 alone", y.tieCould(0, true), 3);
        Check.due("23: shortest", y.tieCould(0, false), 2);
    }

    private static void promise23None() {
        TaleHoles x = new TaleHoles();
        Check.tale(x, "#n1 #v1 #a2 #n3");
        Check.due("23: no words", x.tieCould(1, true), -5);
        Check.due("23: no words", x.tieCould(2, false), -5);
        Check.word(x, "ab", 0, 2);
        Check.due("23: no verb", x.tieCould(1, true), -5);
        Check.due("23: no verb", x.tieCould(1, false), -5);
        Check.due("23: a noun alone", x.tieCould(3, false), 2);
        Check.word(x, "abc", 1, 0);
        Check.due("23: noun and verb", x.tieCould(1, true), 5);
        Check.due("23: no adjective", x.tieCould(2, true), -5);
        Check.due("23: unknown before none", x.tieCould(10, true), -1);
    }

    private static void promise24Count() {
        TaleHoles x = withTale("the #a1 #n1 and #v2 #n1");
        x.fill(1, 0);
        x.fill(0, 3);
        x.set(1);
        x.setEnding(0, 0, 5, 6);
        int[] due = {4, 6, 4, 2, 21, 8, 2, 1, 2, 4, 23};
        for (int what = 0; what <= 10; what++) {
            Check.due("24: count(" + what + ")", x.count(what), due[what]);
        }
        Check.due("24: as it is told", Check.told(x), "the big catef and _ _");
        x.fillAll();
        x.empty(0);
        Check.due("24: fillings so far", x.count(8), 3);
        x.undo();
        x.undo();
        Check.due("24: fillings are of the state", x.count(8), 2);
        Check.due("24: states", x.count(9), 2);
        Check.due("24: 11", x.count(11), -2);
        Check.due("24: -1", x.count(-1), -2);
        Check.due("24: greatest", x.count(Integer.MAX_VALUE), -2);
        Check.tale(x, "#n0 #v9 #n0");
        Check.due("24: the first and the last tie", x.count(6), 2);
        Check.tale(x, "so");
        Check.due("24: ties without holes", x.count(6), 0);
        Check.due("24: letters in no holes", x.count(5), 0);
        Check.due("24: characters", x.count(4), 2);
    }
}
