/** What the tests share: calls whose answers are due are counted if they answer otherwise. */
final class Check {
    private static int wrong = 0;
    private static int checked = 0;
    /** The sentence that is tested; it stands before each answer that is not as due. */
    private static String sentence = "";

    private Check() {
    }

    /** Names the sentence of the document that the calls test which follow. */
    static void sentence(String section, String words) {
        sentence = section + ", \"" + words + "\": ";
        Document.quote(section, words);
    }

    static void noSentence() {
        sentence = "";
    }

    static void due(String call, long got, long want) {
        checked++;
        if (got != want) {
            wrong++;
            System.out.println(sentence + call + " answered " + got + ", due is " + want);
        }
    }

    static void due(String call, String got, String want) {
        checked++;
        if (!got.equals(want)) {
            wrong++;
            System.out.println(sentence + call + " answered \"" + got + "\", due is \"" + want + "\"");
        }
    }

    /** Numbers that are not from 0 to the most: just outside, far off, and such as wrap around in products and masks. */
    static int[] outside(int most) {
        return new int[] {-1, most + 1, most + 2, -2, -most - 1, 128, 256, -256, 1 << 16, -(1 << 16), 1 << 24, 1 << 29,
            (1 << 29) + 1, 1 << 30, 715827883, 1431655766, Integer.MAX_VALUE - 1, Integer.MAX_VALUE,
            Integer.MIN_VALUE, Integer.MIN_VALUE + 1};
    }

    /** Puts a text in place of the one that was. */
    static void text(TaleHoles x, String text) {
        x.clearText();
        for (int i = 0; i < text.length(); i++) {
            x.type(text.charAt(i));
        }
    }

    static int word(TaleHoles x, String stem, int kind, int gender) {
        text(x, stem);
        return x.addWord(kind, gender);
    }

    static int tale(TaleHoles x, String tale) {
        text(x, tale);
        return x.readTale();
    }

    /** The whole tale, told character by character. */
    static String told(TaleHoles x) {
        StringBuilder tale = new StringBuilder();
        int code = x.told(0);
        while (code != TaleHoles.NONE && tale.length() < 1000) {
            tale.append((char) code);
            code = x.told(tale.length());
        }
        return tale.toString();
    }

    /** A word in a form, told letter by letter. */
    static String spelt(TaleHoles x, int word, int form) {
        StringBuilder letters = new StringBuilder();
        int letter = x.letter(word, form, 0);
        while (letter != TaleHoles.NONE && letters.length() < 100) {
            letters.append(letter >= 1 && letter <= 26 ? (char) ('a' - 1 + letter) : '?');
            letter = x.letter(word, form, letters.length());
        }
        return letters.toString();
    }

    static void end() {
        System.out.println(wrong == 0 ? checked + " answers are as due" : wrong + " answers are not as due");
        if (wrong != 0) {
            System.exit(1);
        }
    }
}
