import java.util.ArrayDeque;
import java.util.ArrayList;
import java.util.Arrays;
import java.util.Deque;
import java.util.HashSet;
import java.util.List;
import java.util.Set;
import java.util.stream.Collectors;
import java.util.stream.IntStream;

/** A second reading of the document, with strings and the Java library, that ModelTest holds against the class. */
final class Model {
    private record Word(int kind, String stem, int gender) {
    }

    /** An item; a plain word has the kind -1. */
    private record Item(String plain, int kind, int tie) {
    }

    private static final class State {
        List<Word> words = new ArrayList<>();
        String[] endings = new String[18];
        List<Item> items = new ArrayList<>();
        List<Integer> filledBy = new ArrayList<>();
        int[] forms = new int[10];
        int once = 0;
        int fillings = 0;

        State() {
            Arrays.fill(endings, "");
        }

        State copy() {
            State copy = new State();
            copy.words = new ArrayList<>(words);
            copy.endings = endings.clone();
            copy.items = new ArrayList<>(items);
            copy.filledBy = new ArrayList<>(filledBy);
            copy.forms = forms.clone();
            copy.once = once;
            copy.fillings = fillings;
            return copy;
        }

        List<Item> holes() {
            return items.stream().filter(item -> item.kind() >= 0).collect(Collectors.toList());
        }
    }

    private State now = new State();
    private State kept = null;
    private final Deque<State> history = new ArrayDeque<>();
    private String text = "";

    private void record() {
        history.addLast(now.copy());
        if (history.size() > 4) {
            history.removeFirst();
        }
    }

    private static boolean out(int value, int least, int most) {
        return value < least || value > most;
    }

    private boolean noHole(int hole) {
        return out(hole, 0, now.holes().size() - 1);
    }

    private boolean noWord(int word) {
        return out(word, 0, now.words.size() - 1);
    }

    int addWord(int kind, int gender) {
        if (out(kind, 0, 2)) {
            return -1;
        }
        if (kind == 0 ? out(gender, 0, 2) : gender != 0) {
            return -2;
        }
        if (fault(false) != -5) {
            return -100 - fault(false);
        }
        if (now.words.size() == 24) {
            return -3;
        }
        record();
        now.words.add(new Word(kind, text, gender));
        return now.words.size() - 1;
    }

    private static int code(String ending) {
        int first = ending.isEmpty() ? 0 : ending.charAt(0) - 'a' + 1;
        int second = ending.length() < 2 ? 0 : ending.charAt(1) - 'a' + 1;
        return 27 * first + second;
    }

    int setEnding(int kind, int form, int first, int second) {
        if (out(kind, 0, 2)) {
            return -1;
        }
        if (out(form, 0, 5) || out(first, 0, 26) || out(second, 0, 26) || (first == 0 && second != 0)) {
            return -2;
        }
        String ending = "";
        if (first != 0) {
            ending += (char) ('a' + first - 1);
        }
        if (second != 0) {
            ending += (char) ('a' + second - 1);
        }
        String previous = now.endings[6 * kind + form];
        if (previous.equals(ending)) {
            return -5;
        }
        record();
        now.endings[6 * kind + form] = ending;
        return code(previous);
    }

    int readTale() {
        if (fault(true) != -5) {
            return -100 - fault(true);
        }
        record();
        now.items.clear();
        now.filledBy.clear();
        for (String item : text.split(" ")) {
            if (item.startsWith("#")) {
                now.items.add(new Item("", "nva".indexOf(item.charAt(1)), item.charAt(2) - '0'));
                now.filledBy.add(null);
            } else {
                now.items.add(new Item(item, -1, -1));
            }
        }
        return now.holes().size();
    }

    int setTie(int tie, int number, int tense) {
        if (out(tie, 0, 9)) {
            return -1;
        }
        if (out(number, 0, 1) || out(tense, 0, 2)) {
            return -2;
        }
        int previous = now.forms[tie];
        if (previous == 3 * number + tense) {
            return -5;
        }
        record();
        now.forms[tie] = 3 * number + tense;
        return previous;
    }

    int fill(int hole, int word) {
        if (noHole(hole) || noWord(word)) {
            return -1;
        }
        if (reason(hole, word) != 0) {
            return -10 - reason(hole, word);
        }
        record();
        now.fillings++;
        Integer previous = now.filledBy.set(hole, word);
        return previous == null ? 100 : previous;
    }

    int empty(int hole) {
        if (noHole(hole)) {
            return -1;
        }
        if (now.filledBy.get(hole) == null) {
            return -5;
        }
        record();
        return now.filledBy.set(hole, null);
    }

    int fillAll() {
        State before = now.copy();
        int filled = 0;
        for (int hole = 0; hole < now.holes().size(); hole++) {
            int set = fits(hole);
            if (now.filledBy.get(hole) == null && set != 0) {
                now.filledBy.set(hole, Integer.numberOfTrailingZeros(set));
                filled++;
            }
        }
        if (filled == 0) {
            return -5;
        }
        State after = now;
        now = before;
        record();
        now = after;
        now.fillings += filled;
        return filled;
    }

    int set(int once) {
        if (out(once, 0, 1)) {
            return -2;
        }
        if (now.once == once) {
            return -5;
        }
        record();
        now.once = once;
        return 1 - once;
    }

    int type(char character) {
        if (text.length() == 60) {
            return -3;
        }
        text += character;
        return text.length();
    }

    int clearText() {
        int length = text.length();
        text = "";
        return length;
    }

    /** The longest beginning of the text that some text without a fault begins with, found by trying them all. */
    int fault(boolean asTale) {
        if (whole(text, asTale)) {
            return -5;
        }
        int end = 0;
        while (end < text.length() && begins(text.substring(0, end + 1), asTale)) {
            end++;
        }
        return end;
    }

    private static boolean whole(String text, boolean asTale) {
        if (!asTale) {
            return text.matches("[a-z]{1,8}");
        }
        return text.matches("([a-z]{1,10}|#[nva][0-9])( ([a-z]{1,10}|#[nva][0-9])){0,19}");
    }

    private static boolean begins(String text, boolean asTale) {
        for (String rest : new String[] {"", "a", "n0", "0"}) {
            if (whole(text + rest, asTale)) {
                return true;
            }
        }
        return false;
    }

    int undo() {
        if (history.isEmpty()) {
            return -5;
        }
        now = history.removeLast();
        return history.size();
    }

    int keep() {
        kept = now.copy();
        return now.words.size();
    }

    int restore() {
        if (kept == null) {
            return -5;
        }
        record();
        now = kept.copy();
        return now.words.size();
    }

    int word(int word, int what) {
        if (noWord(word)) {
            return -1;
        }
        if (out(what, 0, 3)) {
            return -2;
        }
        Word w = now.words.get(word);
        int holes = (int) now.filledBy.stream().filter(other -> other != null && other == word).count();
        return new int[] {w.kind(), w.gender(), w.stem().length(), holes}[what];
    }

    private String spelt(Word word, int form) {
        return word.stem() + now.endings[6 * word.kind() + form];
    }

    int letter(int word, int form, int place) {
        if (noWord(word)) {
            return -1;
        }
        if (out(form, 0, 5) || place < 0) {
            return -2;
        }
        String letters = spelt(now.words.get(word), form);
        return place < letters.length() ? letters.charAt(place) - 'a' + 1 : -5;
    }

    private Set<Integer> genders(int tie) {
        Set<Integer> genders = new HashSet<>();
        for (int hole = 0; hole < now.holes().size(); hole++) {
            Integer word = now.filledBy.get(hole);
            if (word != null && now.holes().get(hole).tie() == tie && now.words.get(word).kind() == 0) {
                genders.add(now.words.get(word).gender());
            }
        }
        return genders;
    }

    private int form(Item hole, int gender) {
        int number = now.forms[hole.tie()] / 3;
        return new int[] {number, now.forms[hole.tie()], 3 * number + gender}[hole.kind()];
    }

    private int genderOf(int tie) {
        return genders(tie).isEmpty() ? 0 : genders(tie).iterator().next();
    }

    private String spelt(int hole) {
        Integer word = now.filledBy.get(hole);
        Item item = now.holes().get(hole);
        return word == null ? "_" : spelt(now.words.get(word), form(item, genderOf(item.tie())));
    }

    int hole(int hole, int what) {
        if (noHole(hole)) {
            return -1;
        }
        if (out(what, 0, 5)) {
            return -2;
        }
        Item item = now.holes().get(hole);
        Integer word = now.filledBy.get(hole);
        int place = -1;
        for (int seen = -1; seen < hole;) {
            place++;
            seen += now.items.get(place).kind() >= 0 ? 1 : 0;
        }
        return new int[] {item.kind(), item.tie(), word == null ? -5 : word, form(item, genderOf(item.tie())),
            word == null ? 0 : spelt(hole).length(), place}[what];
    }

    int tie(int tie, int what) {
        if (out(tie, 0, 9)) {
            return -1;
        }
        if (out(what, 0, 5)) {
            return -2;
        }
        int[] holes = IntStream.range(0, now.holes().size()).filter(h -> now.holes().get(h).tie() == tie).toArray();
        int empty = (int) Arrays.stream(holes).filter(h -> now.filledBy.get(h) == null).count();
        return new int[] {now.forms[tie] / 3, now.forms[tie] % 3, genderOf(tie), holes.length, empty,
            genders(tie).isEmpty() ? 0 : 1}[what];
    }

    private String tale() {
        List<String> told = new ArrayList<>();
        int hole = 0;
        for (Item item : now.items) {
            told.add(item.kind() < 0 ? item.plain() : spelt(hole++));
        }
        return String.join(" ", told);
    }

    int told(int place) {
        if (place < 0) {
            return -2;
        }
        return place < tale().length() ? tale().charAt(place) : -5;
    }

    int reason(int hole, int word) {
        if (noHole(hole) || noWord(word)) {
            return -1;
        }
        Word w = now.words.get(word);
        Item item = now.holes().get(hole);
        if (w.kind() != item.kind()) {
            return 1;
        }
        Integer inIt = now.filledBy.set(hole, null);
        Set<Integer> others = genders(item.tie());
        now.filledBy.set(hole, inIt);
        others.remove(w.gender());
        if (w.kind() == 0 && !others.isEmpty()) {
            return 2;
        }
        return now.once == 1 && now.filledBy.contains(word) ? 3 : 0;
    }

    int fits(int hole) {
        if (noHole(hole)) {
            return -1;
        }
        return IntStream.range(0, now.words.size()).filter(w -> reason(hole, w) == 0).map(w -> 1 << w).sum();
    }

    int tieCould(int tie, boolean longest) {
        if (out(tie, 0, 9)) {
            return -1;
        }
        List<Item> holes = now.holes().stream().filter(h -> h.tie() == tie).collect(Collectors.toList());
        boolean nouns = holes.stream().anyMatch(h -> h.kind() == 0);
        List<Integer> sums = new ArrayList<>();
        for (int gender = 0; gender < (nouns ? 3 : 1); gender++) {
            int chosen = gender;
            int sum = 0;
            boolean all = true;
            for (Item hole : holes) {
                int[] lengths = now.words.stream()
                    .filter(w -> w.kind() == hole.kind() && (w.kind() != 0 || w.gender() == chosen))
                    .mapToInt(w -> spelt(w, form(hole, chosen)).length()).sorted().toArray();
                all &= lengths.length > 0;
                sum += lengths.length == 0 ? 0 : lengths[longest ? lengths.length - 1 : 0];
            }
            if (all) {
                sums.add(sum);
            }
        }
        sums.sort(null);
        return sums.isEmpty() ? -5 : sums.get(longest ? sums.size() - 1 : 0);
    }

    int count(int what) {
        if (out(what, 0, 10)) {
            return -2;
        }
        int holes = now.holes().size();
        int empty = (int) now.filledBy.stream().filter(w -> w == null).count();
        int letters = IntStream.range(0, holes).map(h -> hole(h, 4)).sum();
        int ties = (int) now.holes().stream().map(Item::tie).distinct().count();
        return new int[] {now.words.size(), now.items.size(), holes, empty, tale().length(), letters, ties, now.once,
            now.fillings, history.size(), text.length()}[what];
    }
}
