/** An object whose calls are counted: its answers after the 512th are free, so no test may ask then. */
final class Counted {
    static final int CALL_LIMIT = 512;

    private final WordLists lists = new WordLists();
    private int calls = 0;

    private WordLists counted() {
        calls++;
        if (calls == CALL_LIMIT + 1) {
            Check.report("a test makes more than " + CALL_LIMIT + " calls on one object");
        }
        return lists;
    }

    int calls() {
        return calls;
    }

    boolean sign(int u) {
        return counted().sign(u);
    }

    void clear() {
        counted().clear();
    }

    void fold(int from, int to) {
        counted().fold(from, to);
    }

    int enter(int list, int score) {
        return counted().enter(list, score);
    }

    int bar(boolean on) {
        return counted().bar(on);
    }

    int merge(int how, int to, int a, int b) {
        return counted().merge(how, to, a, b);
    }

    int seek(int list) {
        return counted().seek(list);
    }

    int candidate(int k) {
        return counted().candidate(k);
    }

    int at(int place, int letter) {
        return counted().at(place, letter);
    }

    int begins(int list) {
        return counted().begins(list);
    }

    int ends(int list) {
        return counted().ends(list);
    }

    int mixed(int list) {
        return counted().mixed(list);
    }

    int many(int list, int letters) {
        return counted().many(list, letters);
    }

    int letters(int list, int letter) {
        return counted().letters(list, letter);
    }

    int letter(int word, int i) {
        return counted().letter(word, i);
    }

    int tell(int word, int what) {
        return counted().tell(word, what);
    }

    int common(int list) {
        return counted().common(list);
    }

    /** The row is the text from now on; each of its signs must be taken. */
    Counted row(String text) {
        clear();
        for (int i = 0; i < text.length(); i++) {
            Check.due("sign " + text.charAt(i) + " of the row " + text, true, sign(text.charAt(i)));
        }
        return this;
    }

    int enter(String text, int list, int score) {
        return row(text).enter(list, score);
    }

    /** The word's letters, as tell and letter answer them. */
    String word(int word) {
        StringBuilder text = new StringBuilder();
        int length = tell(word, 3);
        for (int i = 0; i < length; i++) {
            text.append((char) letter(word, i));
        }
        return text.toString();
    }

    /** Seeks, and answers the candidates' numbers, with a blank between them. */
    String sought(int list) {
        return candidates(seek(list));
    }

    String candidates(int count) {
        StringBuilder text = new StringBuilder();
        for (int k = 0; k < count; k++) {
            text.append(k == 0 ? "" : " ").append(candidate(k));
        }
        Check.dueThrow("candidate " + count + " behind the last one", () -> candidate(count));
        return text.toString();
    }
}
