/**
 * Up to 250 words with scores on four lists, asked by a row of letters and blanks.
 *
 * All state lies in rows of numbers that the constructor makes, so that no call makes anything but
 * the exception that it throws. What keeps every index in its row: signCount <= ROW_LIMIT, each
 * word below wordCount <= WORD_LIMIT has 1 .. ROW_LIMIT letters, and the candidates are such words.
 */
public final class WordLists {
    private static final int ROW_LIMIT = 15;
    private static final int WORD_LIMIT = 250;
    private static final int LIST_COUNT = 4;
    private static final int SCORE_LIMIT = 1000;

    private static final int BLANK = 63;
    private static final int FIRST_LETTER = 97;
    private static final int LETTER_COUNT = 26;

    private static final int EITHER = 0;
    private static final int BOTH = 1;
    private static final int FIRST_ONLY = 2;

    private static final int NONE = -1;

    // The signs as they came: a later fold changes what they stand for.
    private final int[] signs;
    private int signCount;
    private final int[] folding;

    // Word w has its letters from w * ROW_LIMIT on.
    private final int[] wordLetters;
    private final int[] wordLengths;
    private final int[] wordScores;
    private final int[] wordListBits;
    private final boolean[] wordBarred;
    private int wordCount;

    private final int[] candidates;
    private int candidateCount;

    // Of use within one call of mixed only: how often the row still has each letter.
    private final int[] stock;

    public WordLists() {
        signs = new int[ROW_LIMIT];
        signCount = 0;
        folding = new int[LETTER_COUNT];
        for (int i = 0; i < LETTER_COUNT; i++) {
            folding[i] = FIRST_LETTER + i;
        }
        wordLetters = new int[WORD_LIMIT * ROW_LIMIT];
        wordLengths = new int[WORD_LIMIT];
        wordScores = new int[WORD_LIMIT];
        wordListBits = new int[WORD_LIMIT];
        wordBarred = new boolean[WORD_LIMIT];
        wordCount = 0;
        candidates = new int[WORD_LIMIT];
        candidateCount = 0;
        stock = new int[LETTER_COUNT];
    }

    public boolean sign(int u) {
        if (signCount >= ROW_LIMIT || !(isLetter(u) || u == BLANK)) {
            return false;
        }
        signs[signCount] = u;
        signCount++;
        return true;
    }

    public void clear() {
        signCount = 0;
    }

    public void fold(int from, int to) throws ArrayIndexOutOfBoundsException {
        needLetter(from);
        needLetter(to);
        folding[from - FIRST_LETTER] = to;
    }

    public int enter(int list, int score) throws ArrayIndexOutOfBoundsException {
        needList(list);
        if (signCount == 0 || rowHasBlank() || score < 0 || score > SCORE_LIMIT) {
            return NONE;
        }
        int word = wordOfRow();
        if (word == NONE) {
            if (wordCount >= WORD_LIMIT) {
                return NONE;
            }
            word = addWordOfRow();
        }
        wordListBits[word] |= 1 << list;
        wordScores[word] = Math.max(wordScores[word], score);
        return word;
    }

    public int bar(boolean on) {
        int changed = 0;
        for (int word = 0; word < wordCount; word++) {
            if (wordBarred[word] != on && fits(word)) {
                wordBarred[word] = on;
                changed++;
            }
        }
        return changed;
    }

    public int merge(int how, int to, int a, int b) throws ArrayIndexOutOfBoundsException {
        needList(to);
        needList(a);
        needList(b);
        if (how != EITHER && how != BOTH && how != FIRST_ONLY) {
            return NONE;
        }
        int count = 0;
        for (int word = 0; word < wordCount; word++) {
            if (isChosen(how, isOf(word, a), isOf(word, b))) {
                wordListBits[word] |= 1 << to;
                count++;
            } else {
                wordListBits[word] &= ~(1 << to);
            }
        }
        return count;
    }

    public int seek(int list) throws ArrayIndexOutOfBoundsException {
        needList(list);
        candidateCount = 0;
        for (int word = 0; word < wordCount; word++) {
            if (isFreeIn(word, list) && fits(word)) {
                addCandidate(word);
            }
        }
        return candidateCount;
    }

    public int candidate(int k) throws ArrayIndexOutOfBoundsException {
        if (k < 0 || k >= candidateCount) {
            throw new ArrayIndexOutOfBoundsException("no such candidate");
        }
        return candidates[k];
    }

    public int at(int place, int letter) throws ArrayIndexOutOfBoundsException {
        needLetter(letter);
        int count = 0;
        for (int k = 0; k < candidateCount; k++) {
            if (letterOrNone(candidates[k], place) == letter) {
                count++;
            }
        }
        return count;
    }

    public int begins(int list) throws ArrayIndexOutOfBoundsException {
        needList(list);
        int count = 0;
        for (int word = 0; word < wordCount; word++) {
            if (isFreeIn(word, list) && hasRowAt(word, 0)) {
                count++;
            }
        }
        return count;
    }

    public int ends(int list) throws ArrayIndexOutOfBoundsException {
        needList(list);
        int count = 0;
        for (int word = 0; word < wordCount; word++) {
            if (isFreeIn(word, list) && hasRowAt(word, wordLengths[word] - signCount)) {
                count++;
            }
        }
        return count;
    }

    public int mixed(int list) throws ArrayIndexOutOfBoundsException {
        needList(list);
        int count = 0;
        for (int word = 0; word < wordCount; word++) {
            if (isFreeIn(word, list) && isRowInSomeOrder(word)) {
                count++;
            }
        }
        return count;
    }

    public int many(int list, int letters) throws ArrayIndexOutOfBoundsException {
        needList(list);
        if (letters < 1 || letters > ROW_LIMIT) {
            return NONE;
        }
        int count = 0;
        for (int word = 0; word < wordCount; word++) {
            if (isOf(word, list) && wordLengths[word] == letters) {
                count++;
            }
        }
        return count;
    }

    public int letters(int list, int letter) throws ArrayIndexOutOfBoundsException {
        needList(list);
        needLetter(letter);
        int count = 0;
        for (int word = 0; word < wordCount; word++) {
            if (isOf(word, list)) {
                count += timesInWord(word, letter);
            }
        }
        return count;
    }

    public int letter(int word, int i) throws ArrayIndexOutOfBoundsException {
        needWord(word);
        return letterOrNone(word, i);
    }

    public int tell(int word, int what) throws ArrayIndexOutOfBoundsException {
        needWord(word);
        switch (what) {
            case 0:
                return wordScores[word];
            case 1:
                return wordListBits[word];
            case 2:
                return wordBarred[word] ? 1 : 0;
            case 3:
                return wordLengths[word];
            default:
                return NONE;
        }
    }

    public int common(int list) throws ArrayIndexOutOfBoundsException {
        needList(list);
        int first = NONE;
        int shared = 0;
        for (int word = 0; word < wordCount; word++) {
            if (isFreeIn(word, list)) {
                if (first == NONE) {
                    first = word;
                    shared = wordLengths[word];
                } else {
                    shared = Math.min(shared, sharedBeginning(first, word));
                }
            }
        }
        return shared;
    }

    private static boolean isLetter(int u) {
        return u >= FIRST_LETTER && u < FIRST_LETTER + LETTER_COUNT;
    }

    private static void needLetter(int u) {
        if (!isLetter(u)) {
            throw new ArrayIndexOutOfBoundsException("no letter");
        }
    }

    private static void needList(int list) {
        if (list < 0 || list >= LIST_COUNT) {
            throw new ArrayIndexOutOfBoundsException("no such list");
        }
    }

    private void needWord(int word) {
        if (word < 0 || word >= wordCount) {
            throw new ArrayIndexOutOfBoundsException("no such word");
        }
    }

    private static boolean isChosen(int how, boolean ofFirst, boolean ofSecond) {
        if (how == EITHER) {
            return ofFirst || ofSecond;
        }
        if (how == BOTH) {
            return ofFirst && ofSecond;
        }
        return ofFirst && !ofSecond;
    }

    private boolean isOf(int word, int list) {
        return (wordListBits[word] & (1 << list)) != 0;
    }

    private boolean isFreeIn(int word, int list) {
        return isOf(word, list) && !wordBarred[word];
    }

    private int foldedSign(int i) {
        int u = signs[i];
        return isLetter(u) ? folding[u - FIRST_LETTER] : BLANK;
    }

    private boolean rowHasBlank() {
        for (int i = 0; i < signCount; i++) {
            if (signs[i] == BLANK) {
                return true;
            }
        }
        return false;
    }

    private int letterOrNone(int word, int i) {
        if (i < 0 || i >= wordLengths[word]) {
            return NONE;
        }
        return wordLetters[word * ROW_LIMIT + i];
    }

    private int timesInWord(int word, int letter) {
        int count = 0;
        for (int i = 0; i < wordLengths[word]; i++) {
            if (letterOrNone(word, i) == letter) {
                count++;
            }
        }
        return count;
    }

    private boolean hasRowAt(int word, int start) {
        if (start < 0 || start + signCount > wordLengths[word]) {
            return false;
        }
        for (int i = 0; i < signCount; i++) {
            int u = foldedSign(i);
            if (u != BLANK && u != letterOrNone(word, start + i)) {
                return false;
            }
        }
        return true;
    }

    private boolean fits(int word) {
        return wordLengths[word] == signCount && hasRowAt(word, 0);
    }

    // For a row without blanks: only then is the word that fits the very same.
    private int wordOfRow() {
        for (int word = 0; word < wordCount; word++) {
            if (fits(word)) {
                return word;
            }
        }
        return NONE;
    }

    // For a row without blanks, while there are fewer than WORD_LIMIT words.
    private int addWordOfRow() {
        int word = wordCount;
        for (int i = 0; i < signCount; i++) {
            wordLetters[word * ROW_LIMIT + i] = foldedSign(i);
        }
        wordLengths[word] = signCount;
        wordCount++;
        return word;
    }

    private void addCandidate(int word) {
        int place = candidateCount;
        while (place > 0 && isAhead(word, candidates[place - 1])) {
            candidates[place] = candidates[place - 1];
            place--;
        }
        candidates[place] = word;
        candidateCount++;
    }

    private boolean isAhead(int word, int other) {
        if (wordScores[word] != wordScores[other]) {
            return wordScores[word] > wordScores[other];
        }
        // Both fit one row, so neither is a beginning of the other.
        int i = sharedBeginning(word, other);
        return letterOrNone(word, i) < letterOrNone(other, i);
    }

    private int sharedBeginning(int word, int other) {
        int limit = Math.min(wordLengths[word], wordLengths[other]);
        int i = 0;
        while (i < limit && letterOrNone(word, i) == letterOrNone(other, i)) {
            i++;
        }
        return i;
    }

    private boolean isRowInSomeOrder(int word) {
        if (wordLengths[word] != signCount) {
            return false;
        }
        int blanks = fillStock();
        for (int i = 0; i < signCount; i++) {
            int index = letterOrNone(word, i) - FIRST_LETTER;
            if (index >= 0 && index < LETTER_COUNT && stock[index] > 0) {
                stock[index]--;
            } else {
                blanks--;
            }
        }
        // As many letters as signs: when the blanks were enough, every letter of the row is used.
        return blanks >= 0;
    }

    /** Puts the row's letters into the stock and answers how many blanks it has. */
    private int fillStock() {
        for (int i = 0; i < LETTER_COUNT; i++) {
            stock[i] = 0;
        }
        int blanks = 0;
        for (int i = 0; i < signCount; i++) {
            int u = foldedSign(i);
            if (isLetter(u)) {
                stock[u - FIRST_LETTER]++;
            } else {
                blanks++;
            }
        }
        return blanks;
    }
}
