import java.util.Random;

/** Runs of 512 calls, drawn from fixed seeds, whose answers the class and the model must give alike. */
public final class ModelTest {
    private static final int RUNS = 600;
    private static final int CALLS = 512;

    private final Random draw;
    private final TaleHoles x = new TaleHoles();
    private final Model m = new Model();
    private final int run;
    private int calls = 0;

    private ModelTest(int run) {
        this.run = run;
        this.draw = new Random(run);
    }

    public static void main(String[] args) {
        for (int run = 0; run < RUNS; run++) {
            new ModelTest(run).play();
        }
        Check.end();
    }

    private void play() {
        while (calls < CALLS) {
            int choice = draw.nextInt(100);
            if (choice < 14) {
                typeText();
            } else if (choice < 60) {
                act();
            } else if (choice < 64) {
                tellAll();
            } else {
                ask();
            }
        }
    }

    /** What is answered behind the last call is free. */
    private void same(String call, int got, int want) {
        calls++;
        if (calls <= CALLS) {
            Check.due("run " + run + ", call " + calls + ": " + call, got, want);
        }
    }

    /** A number that is mostly within the bounds, or just outside of them, and seldom far off. */
    private int near(int bound) {
        int choice = draw.nextInt(60);
        if (choice == 0) {
            return draw.nextInt();
        }
        if (choice == 1) {
            return draw.nextBoolean() ? Integer.MAX_VALUE : Integer.MIN_VALUE;
        }
        return choice < 5 ? draw.nextInt(bound + 3) - 1 : draw.nextInt(bound);
    }

    private String letters(int most) {
        StringBuilder letters = new StringBuilder();
        int length = 1 + draw.nextInt(most);
        for (int i = 0; i < length; i++) {
            letters.append((char) ('a' + draw.nextInt(26)));
        }
        return letters.toString();
    }

    private String tale() {
        StringBuilder tale = new StringBuilder();
        int items = 1 + draw.nextInt(draw.nextInt(8) == 0 ? 22 : 6);
        int ties = 1 + draw.nextInt(draw.nextInt(6) == 0 ? 10 : 3);
        for (int i = 0; i < items; i++) {
            String hole = "#" + "nnva".charAt(draw.nextInt(4)) + draw.nextInt(ties);
            boolean plain = draw.nextInt(items > 12 ? 2 : 4) == 0;
            tale.append(i == 0 ? "" : " ").append(plain ? letters(items > 12 ? 1 : 11) : hole);
        }
        return tale.toString();
    }

    private void typeText() {
        String text = draw.nextInt(3) == 0 ? tale() : letters(draw.nextInt(5) == 0 ? 9 : 4);
        if (draw.nextInt(6) == 0) {
            char odd = " #nva0A9_\u0000\u00ff\uffff/:`{".charAt(draw.nextInt(16));
            int place = draw.nextInt(text.length() + 1);
            text = text.substring(0, place) + odd + text.substring(place);
        }
        if (draw.nextInt(20) != 0) {
            same("clearText()", x.clearText(), m.clearText());
        }
        for (char c : text.toCharArray()) {
            same("type((char) " + (int) c + ")", x.type(c), m.type(c));
        }
        if (draw.nextBoolean()) {
            same("fault(true)", x.fault(true), m.fault(true));
            same("fault(false)", x.fault(false), m.fault(false));
        }
        if (text.contains("#")) {
            same("readTale()", x.readTale(), m.readTale());
        } else {
            addWord();
        }
    }

    private void addWord() {
        int kind = near(3);
        int gender = kind == 0 || draw.nextInt(20) == 0 ? near(3) : 0;
        same("addWord(" + kind + ", " + gender + ")", x.addWord(kind, gender), m.addWord(kind, gender));
    }

    private int someHole() {
        return near(Math.max(1, m.count(2)));
    }

    private int someWord() {
        return near(Math.max(1, m.count(0)));
    }

    private void act() {
        switch (draw.nextInt(16)) {
            case 0 -> addWord();
            case 1 -> setEnding();
            case 2 -> setEnding();
            case 3 -> same("readTale()", x.readTale(), m.readTale());
            case 4 -> setTie();
            case 5 -> setTie();
            case 6 -> empty();
            case 7 -> same("fillAll()", x.fillAll(), m.fillAll());
            case 8 -> set();
            case 9 -> same("undo()", x.undo(), m.undo());
            case 10 -> {
                if (draw.nextInt(3) == 0) {
                    same("keep()", x.keep(), m.keep());
                }
            }
            case 11 -> {
                if (draw.nextInt(3) == 0) {
                    same("restore()", x.restore(), m.restore());
                }
            }
            default -> fill();
        }
    }

    private void setEnding() {
        int kind = near(3);
        int form = near(draw.nextBoolean() ? 2 : 6);
        int first = draw.nextInt(3) == 0 ? 0 : near(27);
        int second = first == 0 && draw.nextInt(9) != 0 || draw.nextInt(3) == 0 ? 0 : near(27);
        String call = "setEnding(" + kind + ", " + form + ", " + first + ", " + second + ")";
        same(call, x.setEnding(kind, form, first, second), m.setEnding(kind, form, first, second));
    }

    private void setTie() {
        int tie = near(draw.nextBoolean() ? 3 : 10);
        int number = near(2);
        int tense = near(3);
        String call = "setTie(" + tie + ", " + number + ", " + tense + ")";
        same(call, x.setTie(tie, number, tense), m.setTie(tie, number, tense));
    }

    private void fill() {
        int hole = someHole();
        int word = someWord();
        same("fill(" + hole + ", " + word + ")", x.fill(hole, word), m.fill(hole, word));
    }

    private void empty() {
        int hole = someHole();
        same("empty(" + hole + ")", x.empty(hole), m.empty(hole));
    }

    private void set() {
        int once = near(2);
        same("set(" + once + ")", x.set(once), m.set(once));
    }

    private void ask() {
        int hole = someHole();
        int word = someWord();
        int tie = near(draw.nextBoolean() ? 3 : 10);
        int what = near(draw.nextBoolean() ? 4 : 11);
        int form = near(6);
        int place = near(draw.nextBoolean() ? 10 : 60);
        boolean longest = draw.nextBoolean();
        switch (draw.nextInt(9)) {
            case 0 -> same("word(" + word + ", " + what + ")", x.word(word, what), m.word(word, what));
            case 1 -> same("letter(" + word + ", " + form + ", " + place + ")", x.letter(word, form, place),
                m.letter(word, form, place));
            case 2 -> same("hole(" + hole + ", " + what + ")", x.hole(hole, what), m.hole(hole, what));
            case 3 -> same("tie(" + tie + ", " + what + ")", x.tie(tie, what), m.tie(tie, what));
            case 4 -> same("told(" + place + ")", x.told(place), m.told(place));
            case 5 -> same("reason(" + hole + ", " + word + ")", x.reason(hole, word), m.reason(hole, word));
            case 6 -> same("fits(" + hole + ")", x.fits(hole), m.fits(hole));
            case 7 -> same("tieCould(" + tie + ", " + longest + ")", x.tieCould(tie, longest), m.tieCould(tie, longest));
            default -> same("count(" + what + ")", x.count(what), m.count(what));
        }
    }

    private void tellAll() {
        for (int what = 0; what <= 10; what++) {
            same("count(" + what + ")", x.count(what), m.count(what));
        }
        for (int place = 0; place <= m.count(4) && calls < CALLS; place++) {
            same("told(" + place + ")", x.told(place), m.told(place));
        }
    }
}
