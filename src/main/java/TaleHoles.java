/** Tales with holes whose words are kept in step; ../shared/DOC.md says what each method answers. */
public final class TaleHoles {
    public static final int UNKNOWN = -1;
    public static final int BAD_VALUE = -2;
    public static final int FULL = -3;
    public static final int NONE = -5;
    public static final int REFUSED = -10;

    private static final int FAULT = -100;
    private static final int WAS_EMPTY = 100;

    private static final int NOUN = 0;
    private static final int VERB = 1;
    private static final int ADJECTIVE = 2;
    private static final int KINDS = 3;
    private static final int GENDERS = 3;
    private static final int NUMBERS = 2;
    private static final int TENSES = 3;
    private static final int FORMS = 6;
    private static final int TIES = 10;

    private static final int MOST_WORDS = 24;
    private static final int MOST_STEM = 8;
    private static final int MOST_PLAIN = 10;
    private static final int MOST_ITEMS = 20;
    private static final int MOST_SIGNS = 60;
    private static final int MOST_STATES = 4;

    private static final int ALPHABET = 26;
    /** An ending is held as one number, the one that setEnding() answers. */
    private static final int ENDING_BASE = ALPHABET + 1;

    /** Stands where a kind, a hole, a word or a fault would stand if there were one. */
    private static final int ABSENT = -1;

    private final Text text = new Text();
    private final State now = new State();
    private final State snapshot = new State();
    private final History history = new History();
    private boolean snapshotTaken = false;

    public TaleHoles() {
    }

    // ---- words, endings

    public int addWord(int kind, int gender) {
        if (!isBelow(kind, KINDS)) {
            return UNKNOWN;
        }
        if (!isBelow(gender, kind == NOUN ? GENDERS : 1)) {
            return BAD_VALUE;
        }
        int fault = text.faultAsStem();
        if (fault != ABSENT) {
            return FAULT - fault;
        }
        if (now.words.known >= MOST_WORDS) {
            return FULL;
        }
        history.record(now);
        now.words.learn(kind, gender, text);
        return now.words.known - 1;
    }

    public int setEnding(int kind, int form, int first, int second) {
        if (!isBelow(kind, KINDS)) {
            return UNKNOWN;
        }
        if (!isBelow(form, FORMS) || !isEnding(first, second)) {
            return BAD_VALUE;
        }
        int previous = now.words.endingOf(kind, form);
        int ending = ENDING_BASE * first + second;
        if (ending == previous) {
            return NONE;
        }
        history.record(now);
        now.words.changeEnding(kind, form, ending);
        return previous;
    }

    // ---- tales, holes, ties

    public int readTale() {
        int fault = text.faultAsTale();
        if (fault != ABSENT) {
            return FAULT - fault;
        }
        history.record(now);
        now.tale.takeFrom(text);
        return now.tale.holes;
    }

    public int setTie(int tie, int number, int tense) {
        if (!isBelow(tie, TIES)) {
            return UNKNOWN;
        }
        if (!isBelow(number, NUMBERS) || !isBelow(tense, TENSES)) {
            return BAD_VALUE;
        }
        int previousNumber = now.numbers[tie];
        int previousTense = now.tenses[tie];
        if (number == previousNumber && tense == previousTense) {
            return NONE;
        }
        history.record(now);
        now.numbers[tie] = number;
        now.tenses[tie] = tense;
        return 3 * previousNumber + previousTense;
    }

    public int fill(int hole, int word) {
        if (!now.tale.hasHole(hole) || !now.words.knows(word)) {
            return UNKNOWN;
        }
        int reason = now.reasonAgainst(hole, word);
        if (reason != 0) {
            return REFUSED - reason;
        }
        int previous = now.tale.wordIn(hole);
        history.record(now);
        now.putIn(hole, word);
        return previous == ABSENT ? WAS_EMPTY : previous;
    }

    public int empty(int hole) {
        if (!now.tale.hasHole(hole)) {
            return UNKNOWN;
        }
        int previous = now.tale.wordIn(hole);
        if (previous == ABSENT) {
            return NONE;
        }
        history.record(now);
        now.tale.holeWord[hole] = ABSENT;
        return previous;
    }

    public int fillAll() {
        if (!now.someHoleCanBeFilled()) {
            return NONE;
        }
        history.record(now);
        return now.fillEmptyHoles();
    }

    public int set(int once) {
        if (!isBelow(once, 2)) {
            return BAD_VALUE;
        }
        int previous = now.once;
        if (once == previous) {
            return NONE;
        }
        history.record(now);
        now.once = once;
        return previous;
    }

    // ---- texts

    public int type(char character) {
        if (text.length >= MOST_SIGNS) {
            return FULL;
        }
        text.append(character);
        return text.length;
    }

    public int clearText() {
        int previous = text.length;
        text.length = 0;
        return previous;
    }

    public int fault(boolean asTale) {
        int fault = asTale ? text.faultAsTale() : text.faultAsStem();
        return fault == ABSENT ? NONE : fault;
    }

    // ---- history

    public int undo() {
        if (history.size == 0) {
            return NONE;
        }
        history.bringBack(now);
        return history.size;
    }

    public int keep() {
        snapshot.copyFrom(now);
        snapshotTaken = true;
        return now.words.known;
    }

    public int restore() {
        if (!snapshotTaken) {
            return NONE;
        }
        history.record(now);
        now.copyFrom(snapshot);
        return now.words.known;
    }

    // ---- what is told

    public int word(int word, int what) {
        if (!now.words.knows(word)) {
            return UNKNOWN;
        }
        switch (what) {
            case 0:
                return now.words.kindOf(word);
            case 1:
                return now.words.genderOf(word);
            case 2:
                return now.words.stemLengthOf(word);
            case 3:
                return now.tale.holesWith(word);
            default:
                return BAD_VALUE;
        }
    }

    public int letter(int word, int form, int place) {
        if (!now.words.knows(word)) {
            return UNKNOWN;
        }
        if (!isBelow(form, FORMS) || place < 0) {
            return BAD_VALUE;
        }
        int letter = now.words.letterAt(word, form, place);
        return letter == 0 ? NONE : letter;
    }

    public int hole(int hole, int what) {
        if (!now.tale.hasHole(hole)) {
            return UNKNOWN;
        }
        switch (what) {
            case 0:
                return now.tale.kindOfHole(hole);
            case 1:
                return now.tale.tieOf(hole);
            case 2:
                return now.tale.isEmptyHole(hole) ? NONE : now.tale.wordIn(hole);
            case 3:
                return now.formIn(hole);
            case 4:
                return now.lettersIn(hole);
            case 5:
                return now.tale.itemOf(hole);
            default:
                return BAD_VALUE;
        }
    }

    public int tie(int tie, int what) {
        if (!isBelow(tie, TIES)) {
            return UNKNOWN;
        }
        switch (what) {
            case 0:
                return now.numbers[tie];
            case 1:
                return now.tenses[tie];
            case 2:
                return now.genderOfTie(tie);
            case 3:
                return now.tale.holesOfTie(tie, false);
            case 4:
                return now.tale.holesOfTie(tie, true);
            case 5:
                return now.tale.nounIn(tie, ABSENT) == ABSENT ? 0 : 1;
            default:
                return BAD_VALUE;
        }
    }

    public int told(int place) {
        return place < 0 ? BAD_VALUE : now.signToldAt(place);
    }

    public int reason(int hole, int word) {
        if (!now.tale.hasHole(hole) || !now.words.knows(word)) {
            return UNKNOWN;
        }
        return now.reasonAgainst(hole, word);
    }

    public int fits(int hole) {
        if (!now.tale.hasHole(hole)) {
            return UNKNOWN;
        }
        int set = 0;
        for (int word = 0; word < now.words.known; word++) {
            if (now.reasonAgainst(hole, word) == 0) {
                set |= 1 << word;
            }
        }
        return set;
    }

    public int tieCould(int tie, boolean longest) {
        if (!isBelow(tie, TIES)) {
            return UNKNOWN;
        }
        int genders = now.tale.hasNounHole(tie) ? GENDERS : 1;
        int best = ABSENT;
        for (int gender = 0; gender < genders; gender++) {
            best = better(best, now.lettersTieCould(tie, gender, longest), longest);
        }
        return best == ABSENT ? NONE : best;
    }

    public int count(int what) {
        switch (what) {
            case 0:
                return now.words.known;
            case 1:
                return now.tale.items;
            case 2:
                return now.tale.holes;
            case 3:
                return now.tale.holesWith(ABSENT);
            case 4:
                return now.lengthTold();
            case 5:
                return now.lettersInHoles();
            case 6:
                return now.tale.tiesWithHoles();
            case 7:
                return now.once;
            case 8:
                return now.fillings;
            case 9:
                return history.size;
            case 10:
                return text.length;
            default:
                return BAD_VALUE;
        }
    }

    private static boolean isBelow(int value, int bound) {
        return value >= 0 && value < bound;
    }

    private static boolean isEnding(int first, int second) {
        return isBelow(first, ENDING_BASE) && isBelow(second, first == 0 ? 1 : ENDING_BASE);
    }

    /** The longer (or the shorter) of two lengths, either of which may be absent. */
    private static int better(int one, int other, boolean longest) {
        if (one == ABSENT) {
            return other;
        }
        if (other == ABSENT) {
            return one;
        }
        return longest ? Math.max(one, other) : Math.min(one, other);
    }

    private static void copyRow(int[] from, int[] to) {
        System.arraycopy(from, 0, to, 0, Math.min(from.length, to.length));
    }

    /** The text that is typed, and the two ways in which it is read. */
    private static final class Text {
        private final char[] signs = new char[MOST_SIGNS];
        private int length = 0;

        private void append(char sign) {
            if (length < MOST_SIGNS) {
                signs[length] = sign;
                length++;
            }
        }

        /** Behind the end there is the sign 0, which no reading allows. */
        private int signAt(int place) {
            return isBelow(place, length) ? signs[place] : 0;
        }

        private boolean hasLetterAt(int place) {
            int sign = signAt(place);
            return sign >= 'a' && sign <= 'z';
        }

        /** The number of a letter, 1 to 26, or 0 for another sign. */
        private int letterNumberAt(int place) {
            return hasLetterAt(place) ? signAt(place) - 'a' + 1 : 0;
        }

        private boolean hasHoleAt(int place) {
            return signAt(place) == '#';
        }

        private int kindAt(int place) {
            switch (signAt(place)) {
                case 'n':
                    return NOUN;
                case 'v':
                    return VERB;
                case 'a':
                    return ADJECTIVE;
                default:
                    return ABSENT;
            }
        }

        private int digitAt(int place) {
            int digit = signAt(place) - '0';
            return isBelow(digit, TIES) ? digit : ABSENT;
        }

        private int endOfLetters(int start, int most) {
            int letters = 0;
            while (letters < most && hasLetterAt(start + letters)) {
                letters++;
            }
            return start + letters;
        }

        /** Where the item ends that begins at a place, if there is no fault in it. */
        private int endOfItem(int start) {
            return hasHoleAt(start) ? start + 3 : endOfLetters(start, MOST_PLAIN);
        }

        private int faultAsStem() {
            int end = endOfLetters(0, MOST_STEM);
            return end == 0 || end < length ? end : ABSENT;
        }

        private int faultAsTale() {
            int start = 0;
            for (int item = 1; item <= MOST_ITEMS; item++) {
                int fault = faultInItem(start);
                if (fault != ABSENT) {
                    return fault;
                }
                int end = endOfItem(start);
                if (end >= length) {
                    return ABSENT;
                }
                // A blank promises one more item, so behind the last one it is a fault too.
                if (signAt(end) != ' ' || item == MOST_ITEMS) {
                    return end;
                }
                start = end + 1;
            }
            return start;
        }

        private int faultInItem(int start) {
            if (!hasHoleAt(start)) {
                return hasLetterAt(start) ? ABSENT : start;
            }
            if (kindAt(start + 1) == ABSENT) {
                return start + 1;
            }
            return digitAt(start + 2) == ABSENT ? start + 2 : ABSENT;
        }
    }

    /** The words that are known, and the endings of their kinds. */
    private static final class Words {
        private int known = 0;
        private final int[] kinds = new int[MOST_WORDS];
        private final int[] genders = new int[MOST_WORDS];
        private final int[] stemLengths = new int[MOST_WORDS];
        private final int[] stemLetters = new int[MOST_WORDS * MOST_STEM];
        private final int[] endings = new int[KINDS * FORMS];

        private void copyWordsFrom(Words other) {
            known = other.known;
            copyRow(other.kinds, kinds);
            copyRow(other.genders, genders);
            copyRow(other.stemLengths, stemLengths);
            copyRow(other.stemLetters, stemLetters);
            copyRow(other.endings, endings);
        }

        private boolean knows(int word) {
            return word >= 0 && word < known && word < MOST_WORDS;
        }

        private void learn(int kind, int gender, Text text) {
            if (known >= MOST_WORDS) {
                return;
            }
            kinds[known] = kind;
            genders[known] = gender;
            stemLengths[known] = Math.min(text.length, MOST_STEM);
            for (int place = 0; place < MOST_STEM; place++) {
                stemLetters[known * MOST_STEM + place] = text.letterNumberAt(place);
            }
            known++;
        }

        private int kindOf(int word) {
            return knows(word) ? kinds[word] : ABSENT;
        }

        private int genderOf(int word) {
            return knows(word) ? genders[word] : 0;
        }

        private int stemLengthOf(int word) {
            return knows(word) ? stemLengths[word] : 0;
        }

        private int endingOf(int kind, int form) {
            return isBelow(kind, KINDS) && isBelow(form, FORMS) ? endings[kind * FORMS + form] : 0;
        }

        private void changeEnding(int kind, int form, int ending) {
            if (isBelow(kind, KINDS) && isBelow(form, FORMS)) {
                endings[kind * FORMS + form] = ending;
            }
        }

        private int endingLengthOf(int kind, int form) {
            int ending = endingOf(kind, form);
            if (ending == 0) {
                return 0;
            }
            return ending % ENDING_BASE == 0 ? 1 : 2;
        }

        private int lengthOf(int word, int form) {
            return stemLengthOf(word) + endingLengthOf(kindOf(word), form);
        }

        /** A letter, 1 to 26, of the stem or behind it of the ending; 0 behind both. */
        private int letterAt(int word, int form, int place) {
            int stemLength = stemLengthOf(word);
            if (knows(word) && isBelow(place, stemLength) && place < MOST_STEM) {
                return stemLetters[word * MOST_STEM + place];
            }
            int ending = endingOf(kindOf(word), form);
            if (place == stemLength) {
                return ending / ENDING_BASE;
            }
            return place == stemLength + 1 ? ending % ENDING_BASE : 0;
        }

        /** The letters of the longest (or shortest) word of a kind; the gender counts for nouns alone. */
        private int lettersKindCould(int kind, int gender, int form, boolean longest) {
            int best = ABSENT;
            for (int word = 0; word < known; word++) {
                boolean counts = kindOf(word) == kind && (kind != NOUN || genderOf(word) == gender);
                if (counts) {
                    best = better(best, lengthOf(word, form), longest);
                }
            }
            return best;
        }
    }

    /** The items of the tale, its plain words, and its holes with what is in them. */
    private static final class Tale {
        private int items = 0;
        private int holes = 0;
        /** The hole that an item is, or ABSENT for a plain word. */
        private final int[] itemHole = new int[MOST_ITEMS];
        private final int[] itemStart = new int[MOST_ITEMS];
        private final int[] itemLength = new int[MOST_ITEMS];
        private final int[] signs = new int[MOST_SIGNS];
        private final int[] holeKind = new int[MOST_ITEMS];
        private final int[] holeTie = new int[MOST_ITEMS];
        private final int[] holeItem = new int[MOST_ITEMS];
        /** The word that is in a hole, or ABSENT. */
        private final int[] holeWord = new int[MOST_ITEMS];

        private void copyTaleFrom(Tale other) {
            items = other.items;
            holes = other.holes;
            copyRow(other.itemHole, itemHole);
            copyRow(other.itemStart, itemStart);
            copyRow(other.itemLength, itemLength);
            copyRow(other.signs, signs);
            copyRow(other.holeKind, holeKind);
            copyRow(other.holeTie, holeTie);
            copyRow(other.holeItem, holeItem);
            copyRow(other.holeWord, holeWord);
        }

        /** Takes the tale of a text that has no fault when it is read as a tale. */
        private void takeFrom(Text text) {
            items = 0;
            holes = 0;
            for (int place = 0; place < MOST_SIGNS; place++) {
                signs[place] = text.signAt(place);
            }
            int start = 0;
            for (int item = 0; item < MOST_ITEMS && start < text.length; item++) {
                int end = text.endOfItem(start);
                itemStart[item] = start;
                itemLength[item] = end - start;
                itemHole[item] = ABSENT;
                if (text.hasHoleAt(start)) {
                    addHole(item, text.kindAt(start + 1), text.digitAt(start + 2));
                }
                items = item + 1;
                start = end + 1;
            }
        }

        private void addHole(int item, int kind, int tie) {
            if (!isBelow(item, MOST_ITEMS) || holes >= MOST_ITEMS) {
                return;
            }
            itemHole[item] = holes;
            holeKind[holes] = kind;
            holeTie[holes] = tie;
            holeItem[holes] = item;
            holeWord[holes] = ABSENT;
            holes++;
        }

        private boolean hasItem(int item) {
            return item >= 0 && item < items && item < MOST_ITEMS;
        }

        private boolean hasHole(int hole) {
            return hole >= 0 && hole < holes && hole < MOST_ITEMS;
        }

        private int kindOfHole(int hole) {
            return hasHole(hole) ? holeKind[hole] : ABSENT;
        }

        private int tieOf(int hole) {
            return hasHole(hole) ? holeTie[hole] : ABSENT;
        }

        private int itemOf(int hole) {
            return hasHole(hole) ? holeItem[hole] : ABSENT;
        }

        private int wordIn(int hole) {
            return hasHole(hole) ? holeWord[hole] : ABSENT;
        }

        private boolean isEmptyHole(int hole) {
            return wordIn(hole) == ABSENT;
        }

        private int holeOfItem(int item) {
            return hasItem(item) ? itemHole[item] : ABSENT;
        }

        private int plainLengthOf(int item) {
            return hasItem(item) ? itemLength[item] : 0;
        }

        private int plainSignOf(int item, int place) {
            int sign = hasItem(item) ? itemStart[item] + place : ABSENT;
            return isBelow(sign, MOST_SIGNS) ? signs[sign] : 0;
        }

        private int holesWith(int word) {
            int number = 0;
            for (int hole = 0; hole < holes; hole++) {
                if (wordIn(hole) == word) {
                    number++;
                }
            }
            return number;
        }

        private int holesOfTie(int tie, boolean emptyOnes) {
            int number = 0;
            for (int hole = 0; hole < holes; hole++) {
                if (tieOf(hole) == tie && (!emptyOnes || isEmptyHole(hole))) {
                    number++;
                }
            }
            return number;
        }

        private int tiesWithHoles() {
            int number = 0;
            for (int tie = 0; tie < TIES; tie++) {
                if (holesOfTie(tie, false) > 0) {
                    number++;
                }
            }
            return number;
        }

        private boolean hasNounHole(int tie) {
            for (int hole = 0; hole < holes; hole++) {
                if (tieOf(hole) == tie && kindOfHole(hole) == NOUN) {
                    return true;
                }
            }
            return false;
        }

        /** A noun in the holes of a tie, one of them left aside, or ABSENT: all have the same gender. */
        private int nounIn(int tie, int asideHole) {
            for (int hole = 0; hole < holes && hole < MOST_ITEMS; hole++) {
                boolean counts = holeTie[hole] == tie && holeKind[hole] == NOUN && hole != asideHole;
                if (counts && holeWord[hole] != ABSENT) {
                    return holeWord[hole];
                }
            }
            return ABSENT;
        }
    }

    /** All that undo() and restore() bring back, and what is told of words and tale together. */
    private static final class State {
        private final Words words = new Words();
        private final Tale tale = new Tale();
        private final int[] numbers = new int[TIES];
        private final int[] tenses = new int[TIES];
        private int once = 0;
        private int fillings = 0;

        private void copyFrom(State other) {
            words.copyWordsFrom(other.words);
            tale.copyTaleFrom(other.tale);
            copyRow(other.numbers, numbers);
            copyRow(other.tenses, tenses);
            once = other.once;
            fillings = other.fillings;
        }

        private int genderOfTie(int tie) {
            return words.genderOf(tale.nounIn(tie, ABSENT));
        }

        private int formOf(int kind, int tie, int gender) {
            if (!isBelow(tie, TIES)) {
                return 0;
            }
            if (kind == NOUN) {
                return numbers[tie];
            }
            return 3 * numbers[tie] + (kind == VERB ? tenses[tie] : gender);
        }

        private int formIn(int hole) {
            int tie = tale.tieOf(hole);
            return formOf(tale.kindOfHole(hole), tie, genderOfTie(tie));
        }

        private int lettersIn(int hole) {
            return tale.isEmptyHole(hole) ? 0 : words.lengthOf(tale.wordIn(hole), formIn(hole));
        }

        private int lettersInHoles() {
            int letters = 0;
            for (int hole = 0; hole < tale.holes; hole++) {
                letters += lettersIn(hole);
            }
            return letters;
        }

        private int reasonAgainst(int hole, int word) {
            if (words.kindOf(word) != tale.kindOfHole(hole)) {
                return 1;
            }
            if (words.kindOf(word) == NOUN && disagrees(hole, word)) {
                return 2;
            }
            return once == 1 && tale.holesWith(word) > 0 ? 3 : 0;
        }

        private boolean disagrees(int hole, int noun) {
            int other = tale.nounIn(tale.tieOf(hole), hole);
            return other != ABSENT && words.genderOf(other) != words.genderOf(noun);
        }

        private void putIn(int hole, int word) {
            if (tale.hasHole(hole)) {
                tale.holeWord[hole] = word;
                fillings++;
            }
        }

        private int lowestFitting(int hole) {
            for (int word = 0; word < words.known; word++) {
                if (reasonAgainst(hole, word) == 0) {
                    return word;
                }
            }
            return ABSENT;
        }

        private boolean someHoleCanBeFilled() {
            for (int hole = 0; hole < tale.holes; hole++) {
                if (tale.isEmptyHole(hole) && lowestFitting(hole) != ABSENT) {
                    return true;
                }
            }
            return false;
        }

        private int fillEmptyHoles() {
            int filled = 0;
            for (int hole = 0; hole < tale.holes; hole++) {
                int word = tale.isEmptyHole(hole) ? lowestFitting(hole) : ABSENT;
                if (word != ABSENT) {
                    putIn(hole, word);
                    filled++;
                }
            }
            return filled;
        }

        /** How many letters the holes of a tie could have with nouns of one gender, or ABSENT. */
        private int lettersTieCould(int tie, int gender, boolean longest) {
            int letters = 0;
            for (int hole = 0; hole < tale.holes; hole++) {
                if (tale.tieOf(hole) == tie) {
                    int kind = tale.kindOfHole(hole);
                    int form = formOf(kind, tie, gender);
                    int could = words.lettersKindCould(kind, gender, form, longest);
                    if (could == ABSENT) {
                        return ABSENT;
                    }
                    letters += could;
                }
            }
            return letters;
        }

        private int lengthOfItem(int item) {
            int hole = tale.holeOfItem(item);
            if (hole == ABSENT) {
                return tale.plainLengthOf(item);
            }
            return tale.isEmptyHole(hole) ? 1 : words.lengthOf(tale.wordIn(hole), formIn(hole));
        }

        private int lengthTold() {
            int length = Math.max(0, tale.items - 1);
            for (int item = 0; item < tale.items; item++) {
                length += lengthOfItem(item);
            }
            return length;
        }

        private int signOfItem(int item, int place) {
            int hole = tale.holeOfItem(item);
            if (hole == ABSENT) {
                return tale.plainSignOf(item, place);
            }
            if (tale.isEmptyHole(hole)) {
                return '_';
            }
            return 'a' - 1 + words.letterAt(tale.wordIn(hole), formIn(hole), place);
        }

        private int signToldAt(int place) {
            int rest = place;
            for (int item = 0; item < tale.items; item++) {
                int length = lengthOfItem(item);
                if (rest < length) {
                    return signOfItem(item, rest);
                }
                if (rest == length) {
                    return item + 1 < tale.items ? ' ' : NONE;
                }
                rest -= length + 1;
            }
            return NONE;
        }
    }

    /** The states of the history, the oldest first; its rows are made once and used again. */
    private static final class History {
        private final State[] states = new State[MOST_STATES];
        private int size = 0;

        private History() {
            for (int index = 0; index < MOST_STATES; index++) {
                states[index] = new State();
            }
        }

        private void record(State state) {
            if (size >= MOST_STATES) {
                dropOldest();
            }
            State row = rowAt(size);
            if (row != null) {
                row.copyFrom(state);
                size++;
            }
        }

        private void dropOldest() {
            State oldest = states[0];
            for (int index = 1; index < MOST_STATES; index++) {
                states[index - 1] = states[index];
            }
            states[MOST_STATES - 1] = oldest;
            size = MOST_STATES - 1;
        }

        private void bringBack(State state) {
            State row = rowAt(size - 1);
            if (row != null) {
                state.copyFrom(row);
                size--;
            }
        }

        private State rowAt(int index) {
            return isBelow(index, MOST_STATES) ? states[index] : null;
        }
    }
}
