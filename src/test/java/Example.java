/** The example of README.md; behind each line that prints stands what it prints. */
public final class Example {
    public static void main(String[] args) {
        TaleHoles x = new TaleHoles();

        // Words: a stem is typed, then it comes as a word of a kind: 0 nouns, 1 verbs, 2 adjectives.
        write(x, "cat");
        int cat = x.addWord(0, 1); // a noun of the gender 1
        write(x, "run");
        int run = x.addWord(1, 0);
        write(x, "big");
        x.addWord(2, 0);

        // Endings: of a kind, in a form; letters are told by their numbers.
        x.setEnding(0, 1, 19, 0); // nouns, several: "s"
        x.setEnding(1, 0, 19, 0); // verbs, one, tense 0: "s"

        // A tale: a hole is "#", its kind (n, v or a) and its tie.
        write(x, "the #a1 #n1 #v1");
        System.out.println(x.readTale()); // 3
        System.out.println(tale(x)); // the _ _ _

        // Holes are filled one by one, or by themselves.
        System.out.println(x.fits(1)); // 1
        System.out.println(x.fill(1, run)); // -11
        System.out.println(x.fill(1, cat)); // 100
        System.out.println(x.fillAll()); // 2
        System.out.println(tale(x)); // the big cat runs

        // Words of a tie are kept in step: now there are several.
        System.out.println(x.setTie(1, 1, 0)); // 0
        System.out.println(tale(x)); // the big cats run
        System.out.println(x.undo()); // 3
        System.out.println(tale(x)); // the big cat runs

        // A text with a fault is not taken; the tale stays.
        write(x, "the #x1");
        System.out.println(x.fault(true)); // 5
        System.out.println(x.readTale()); // -105
        System.out.println(tale(x)); // the big cat runs
    }

    /** Puts a text in place of the one that was. */
    private static void write(TaleHoles x, String text) {
        x.clearText();
        for (char character : text.toCharArray()) {
            x.type(character);
        }
    }

    /** The whole tale, told character by character. */
    private static String tale(TaleHoles x) {
        StringBuilder tale = new StringBuilder();
        for (int place = 0; place < x.count(4); place++) {
            tale.append((char) x.told(place));
        }
        return tale.toString();
    }
}
