/** One method for each promise of the document: ordinary inputs, edges and wrong inputs. */
public final class PromisesTest {
    private static final int[] NO_LETTERS = {
        Integer.MIN_VALUE, -1, 0, 25, 63, 65, 90, 96, 123, 97 + 256, Integer.MAX_VALUE
    };
    private static final int[] NO_LISTS = {Integer.MIN_VALUE, -1, 4, 5, 32, 33, Integer.MAX_VALUE};

    public static void main(String[] args) {
        newObject();
        sign();
        clear();
        fold();
        foldReachesWhereverTheRowIsUsed();
        enter();
        enterRefuses();
        enterThe251stWord();
        bar();
        merge();
        mergeRefuses();
        seek();
        seek250Words();
        ask250Words();
        candidate();
        candidatesStay();
        at();
        begins();
        ends();
        mixed();
        many();
        letters();
        letter();
        tell();
        common();
        noSuchList();
        Check.end();
    }

    private static void row(WordLists x, String text) {
        x.clear();
        for (int i = 0; i < text.length(); i++) {
            Check.due("sign " + text.charAt(i) + " of " + text, true, x.sign(text.charAt(i)));
        }
    }

    private static int enter(WordLists x, String text, int list, int score) {
        row(x, text);
        return x.enter(list, score);
    }

    private static void dueSeek(WordLists x, String text, int list, int... words) {
        row(x, text);
        String what = "seek " + text + " in list " + list;
        Check.due(what, words.length, x.seek(list));
        for (int k = 0; k < words.length; k++) {
            Check.due(what + ", candidate " + k, words[k], x.candidate(k));
        }
        Check.dueThrow(what + ", behind the last candidate", () -> x.candidate(words.length));
    }

    private static void dueWord(WordLists x, int word, String text) {
        Check.due("letters of " + text, text.length(), x.tell(word, 3));
        for (int i = 0; i < text.length(); i++) {
            Check.due("letter " + i + " of " + text, text.charAt(i), x.letter(word, i));
        }
    }

    private static void newObject() {
        WordLists x = new WordLists();
        Check.due("new: enter", -1, x.enter(0, 1));
        Check.due("new: bar", 0, x.bar(true));
        Check.dueThrow("new: word 0", () -> x.tell(0, 0));
        Check.dueThrow("new: letter of word 0", () -> x.letter(0, 0));
        Check.dueThrow("new: candidate 0", () -> x.candidate(0));
        Check.due("new: at", 0, x.at(0, 'a'));
        for (int list = 0; list < 4; list++) {
            Check.due("new: begins", 0, x.begins(list));
            Check.due("new: ends", 0, x.ends(list));
            Check.due("new: mixed", 0, x.mixed(list));
            Check.due("new: many", 0, x.many(list, 1));
            Check.due("new: letters", 0, x.letters(list, 'a'));
            Check.due("new: common", 0, x.common(list));
            Check.due("new: seek", 0, x.seek(list));
        }
        WordLists other = new WordLists();
        enter(other, "abc", 0, 1);
        Check.due("two objects share no words", 0, x.begins(0));
        Check.due("two objects share no row", -1, x.enter(0, 1));
    }

    private static void sign() {
        WordLists x = new WordLists();
        for (int u : NO_LETTERS) {
            if (u != 63) {
                Check.due("sign " + u, false, x.sign(u));
            }
        }
        Check.due("signs that are none do nothing", -1, x.enter(0, 1));
        for (int u = 97; u <= 111; u++) {
            Check.due("sign " + u, true, x.sign(u));
        }
        Check.due("the 16th sign", false, x.sign('z'));
        Check.due("the 16th sign, a blank", false, x.sign(63));
        Check.due("enter a row of 15", 0, x.enter(0, 1));
        dueWord(x, 0, "abcdefghijklmno");
        x.clear();
        for (int u = 112; u <= 122; u++) {
            Check.due("sign " + u, true, x.sign(u));
        }
        Check.due("enter p to z", 1, x.enter(0, 1));
        dueWord(x, 1, "pqrstuvwxyz");
    }

    private static void clear() {
        WordLists x = new WordLists();
        row(x, "ab");
        x.clear();
        Check.due("enter after clear", -1, x.enter(0, 1));
        x.clear();
        row(x, "c");
        Check.due("enter c", 0, x.enter(0, 1));
        dueWord(x, 0, "c");
        x.fold('d', 'e');
        x.clear();
        Check.due("clear keeps the words", 1, x.begins(0));
        Check.due("clear keeps the folding", 1, enter(x, "d", 0, 1));
        dueWord(x, 1, "e");
    }

    private static void fold() {
        WordLists x = new WordLists();
        for (int u : NO_LETTERS) {
            Check.dueThrow("fold from " + u, () -> x.fold(u, 'a'));
            Check.dueThrow("fold to " + u, () -> x.fold('a', u));
            Check.dueThrow("fold from and to " + u, () -> x.fold(u, u));
        }
        Check.due("the letters are folded to themselves at first", 0, enter(x, "az", 0, 1));
        dueWord(x, 0, "az");
        x.fold('b', 'a');
        x.fold('c', 'b');
        x.fold('z', 'y');
        Check.due("enter folded letters", 1, enter(x, "cabz", 0, 1));
        dueWord(x, 1, "baay");
        x.fold('c', 'c');
        Check.due("a fold reaches the row that is there", 2, x.enter(0, 1));
        dueWord(x, 2, "caay");
        dueWord(x, 0, "az");
        dueWord(x, 1, "baay");
        x.fold('a', 'z');
        x.fold('z', 'a');
        Check.due("two letters change places", 3, enter(x, "az", 0, 1));
        dueWord(x, 3, "za");
    }

    private static void foldReachesWhereverTheRowIsUsed() {
        WordLists x = new WordLists();
        enter(x, "aab", 0, 1);
        x.fold('x', 'a');
        dueSeek(x, "xx?", 0, 0);
        Check.due("at takes the letter as it is", 0, x.at(0, 'x'));
        Check.due("at a", 1, x.at(0, 'a'));
        Check.due("letters takes the letter as it is", 0, x.letters(0, 'x'));
        row(x, "xx");
        Check.due("begins xx", 1, x.begins(0));
        row(x, "xb");
        Check.due("ends xb", 1, x.ends(0));
        row(x, "bxx");
        Check.due("mixed bxx", 1, x.mixed(0));
        row(x, "xab");
        Check.due("bar xab", 1, x.bar(true));
        Check.due("enter the word that is there, folded", 0, x.enter(1, 7));
        Check.due("its lists", 3, x.tell(0, 1));
        row(x, "a?b");
        x.fold('a', 'q');
        Check.due("a word keeps the letters that it came with", 0, x.bar(false));
    }

    private static void enter() {
        WordLists x = new WordLists();
        Check.due("enter tree", 0, enter(x, "tree", 0, 5));
        Check.due("the row stays", 0, x.enter(0, 3));
        Check.due("the greater score stays", 5, x.tell(0, 0));
        Check.due("enter tree into list 3", 0, x.enter(3, 9));
        Check.due("the greater score comes", 9, x.tell(0, 0));
        Check.due("lists 0 and 3", 9, x.tell(0, 1));
        Check.due("enter trees", 1, enter(x, "trees", 0, 0));
        Check.due("enter tre", 2, enter(x, "tre", 0, 1000));
        Check.due("enter eert", 3, enter(x, "eert", 2, 1));
        Check.due("score 0", 0, x.tell(1, 0));
        Check.due("score 1000", 1000, x.tell(2, 0));
        row(x, "tree");
        x.bar(true);
        Check.due("enter a barred word", 0, x.enter(1, 10));
        Check.due("it stays barred", 1, x.tell(0, 2));
        Check.due("and has the score", 10, x.tell(0, 0));
        Check.due("and the list", 11, x.tell(0, 1));
        x.merge(2, 3, 0, 0);
        x.merge(2, 1, 0, 0);
        x.merge(2, 0, 0, 0);
        Check.due("of no list", 0, x.tell(0, 1));
        Check.due("a word of no list keeps its number", 0, x.enter(2, 0));
        Check.due("it comes to the list", 4, x.tell(0, 1));
        Check.due("and keeps its score", 10, x.tell(0, 0));
    }

    private static void enterRefuses() {
        WordLists x = new WordLists();
        Check.due("enter an empty row", -1, x.enter(0, 5));
        Check.due("enter a blank", -1, enter(x, "?", 0, 5));
        Check.due("enter a blank in front", -1, enter(x, "?ab", 0, 5));
        Check.due("enter a blank within", -1, enter(x, "a?b", 0, 5));
        Check.due("enter a blank at the end", -1, enter(x, "ab?", 0, 5));
        int[] noScores = {Integer.MIN_VALUE, -1, 1001, Integer.MAX_VALUE};
        for (int score : noScores) {
            Check.due("enter with score " + score, -1, enter(x, "ab", 0, score));
        }
        Check.dueThrow("none of these made a word", () -> x.tell(0, 0));
        Check.due("enter ab", 0, enter(x, "ab", 0, 5));
        Check.due("enter ab again with score 1001", -1, x.enter(1, 1001));
        Check.due("enter ab again with score -1", -1, x.enter(1, -1));
        Check.due("its score stays", 5, x.tell(0, 0));
        Check.due("its lists stay", 1, x.tell(0, 1));
        enter(x, "a?", 1, 5);
        Check.due("a row with a blank is no word that is there", 1, x.tell(0, 1));
        x.clear();
        for (int list : NO_LISTS) {
            Check.dueThrow("no such list goes before an empty row", () -> x.enter(list, 5));
            Check.dueThrow("no such list goes before a wrong score", () -> x.enter(list, -1));
        }
    }

    /** A fold makes another word of the same row, so 250 words take 503 calls. */
    private static WordLists with250Words() {
        WordLists x = new WordLists();
        row(x, "ab");
        for (int word = 0; word < 250; word++) {
            int block = word / 26;
            // The first word of a block keeps the first letter of the word ahead of it.
            if (word % 26 == 0) {
                x.fold('b', 'a' + block);
            } else {
                x.fold('a', 'a' + (25 * block + word) % 26);
            }
            Check.due("enter word " + word, word, x.enter(3, 1));
        }
        return x;
    }

    private static void enterThe251stWord() {
        WordLists x = with250Words();
        x.fold('b', 'z');
        Check.due("the 251st word", -1, x.enter(3, 1));
        Check.due("it came not", 250, x.many(3, 2));
        Check.dueThrow("there is no word 250", () -> x.tell(250, 0));
        x.fold('b', 'a');
        Check.due("a word that is there, among 250", 6, x.enter(2, 9));
        Check.due("its score", 9, x.tell(6, 0));
    }

    private static void seek250Words() {
        WordLists x = with250Words();
        x.clear();
        x.sign('?');
        x.sign('?');
        Check.due("seek 250 words", 250, x.seek(3));
        Check.due("aa is the first one", 0, x.candidate(0));
        Check.due("zj is the last one", 242, x.candidate(249));
        Check.dueThrow("there is no candidate 250", () -> x.candidate(250));
    }

    /** The row is gj, the last word: nine blocks of 26 words end with a to i, 16 words (r to z, a to g) with j. */
    private static void ask250Words() {
        WordLists x = with250Words();
        Check.due("bar gj among 250 words", 1, x.bar(true));
        Check.due("begins gj", 0, x.begins(3));
        Check.due("bar gj no more", 1, x.bar(false));
        Check.due("begins gj", 1, x.begins(3));
        Check.due("ends gj", 1, x.ends(3));
        Check.due("mixed gj: gj and jg", 2, x.mixed(3));
        Check.due("letters j: the first one in 9 words, the second one in 16", 25, x.letters(3, 'j'));
        Check.due("nothing in common", 0, x.common(3));
        Check.due("merge 250 words", 250, x.merge(0, 0, 3, 1));
    }

    private static void bar() {
        WordLists x = new WordLists();
        enter(x, "cat", 0, 1);
        enter(x, "cot", 1, 1);
        enter(x, "cats", 2, 1);
        enter(x, "at", 3, 1);
        row(x, "c?t");
        Check.due("bar c?t", 2, x.bar(true));
        Check.due("bar c?t again", 0, x.bar(true));
        Check.due("cat is barred", 1, x.tell(0, 2));
        Check.due("cot is barred", 1, x.tell(1, 2));
        Check.due("cats is not", 0, x.tell(2, 2));
        Check.due("at is not", 0, x.tell(3, 2));
        row(x, "?o?");
        Check.due("unbar ?o?", 1, x.bar(false));
        row(x, "???");
        Check.due("bar what is not barred", 1, x.bar(true));
        Check.due("unbar all of three letters", 2, x.bar(false));
        Check.due("unbar again", 0, x.bar(false));
        x.clear();
        Check.due("an empty row fits nothing", 0, x.bar(true));
        x.merge(2, 0, 0, 0);
        row(x, "cat");
        Check.due("a word of no list is barred, too", 1, x.bar(true));
        enter(x, "abcdefghijklmno", 0, 1);
        row(x, "???????????????");
        Check.due("bar 15 letters", 1, x.bar(true));
    }

    private static WordLists threeWordsOnTwoLists() {
        WordLists x = new WordLists();
        enter(x, "a", 0, 1);
        enter(x, "b", 0, 1);
        x.enter(3, 1);
        enter(x, "c", 3, 1);
        return x;
    }

    private static void dueLists(String what, WordLists x, int a, int b, int c) {
        Check.due(what + ": lists of a", a, x.tell(0, 1));
        Check.due(what + ": lists of b", b, x.tell(1, 1));
        Check.due(what + ": lists of c", c, x.tell(2, 1));
    }

    private static void merge() {
        WordLists x = threeWordsOnTwoLists();
        Check.due("one of the two or both", 3, x.merge(0, 1, 0, 3));
        dueLists("one of the two or both", x, 3, 11, 10);
        Check.due("both", 1, x.merge(1, 1, 0, 3));
        dueLists("both", x, 1, 11, 8);
        Check.due("the first one and not the second one", 1, x.merge(2, 1, 0, 3));
        dueLists("the first one and not the second one", x, 3, 9, 8);
        Check.due("the other way round", 1, x.merge(2, 2, 3, 0));
        dueLists("the other way round", x, 3, 9, 12);

        WordLists same = threeWordsOnTwoLists();
        Check.due("into the first one", 1, same.merge(2, 0, 0, 3));
        dueLists("into the first one", same, 1, 8, 8);
        Check.due("into the second one", 3, same.merge(0, 3, 0, 3));
        dueLists("into the second one", same, 9, 8, 8);
        Check.due("a list with itself, 0", 3, same.merge(0, 3, 3, 3));
        Check.due("a list with itself, 1", 3, same.merge(1, 3, 3, 3));
        dueLists("a list with itself", same, 9, 8, 8);
        Check.due("a copy", 1, same.merge(1, 2, 0, 0));
        dueLists("a copy", same, 13, 8, 8);
        row(same, "?");
        same.bar(true);
        Check.due("barred words count", 3, same.merge(0, 1, 3, 3));
        Check.due("a list without itself", 0, same.merge(2, 3, 3, 3));
        dueLists("a list without itself", same, 7, 2, 2);
    }

    private static void mergeRefuses() {
        WordLists x = threeWordsOnTwoLists();
        int[] noHows = {Integer.MIN_VALUE, -1, 3, 4, Integer.MAX_VALUE};
        for (int how : noHows) {
            Check.due("merge " + how, -1, x.merge(how, 1, 0, 3));
            Check.dueThrow("no such list goes before another how", () -> x.merge(how, 4, 0, 3));
        }
        for (int list : NO_LISTS) {
            for (int how = 0; how < 3; how++) {
                int h = how;
                Check.dueThrow("merge to list " + list, () -> x.merge(h, list, 0, 3));
                Check.dueThrow("merge of list " + list, () -> x.merge(h, 1, list, 3));
                Check.dueThrow("merge with list " + list, () -> x.merge(h, 1, 0, list));
            }
        }
        dueLists("nothing was done", x, 1, 9, 8);
    }

    private static void seek() {
        WordLists x = new WordLists();
        enter(x, "tree", 0, 5);
        enter(x, "trip", 0, 9);
        enter(x, "tram", 0, 5);
        enter(x, "trees", 0, 9);
        enter(x, "trap", 0, 5);
        enter(x, "trod", 1, 9);
        enter(x, "drum", 0, 1000);
        enter(x, "true", 0, 0);
        dueSeek(x, "tr??", 0, 1, 2, 4, 0, 7);
        dueSeek(x, "????", 0, 6, 1, 2, 4, 0, 7);
        dueSeek(x, "?r?e", 0, 0, 7);
        dueSeek(x, "tree", 0, 0);
        dueSeek(x, "tr", 0);
        dueSeek(x, "", 0);
        dueSeek(x, "????", 1, 5);
        dueSeek(x, "????", 2);
        row(x, "tra?");
        x.bar(true);
        dueSeek(x, "tr??", 0, 1, 0, 7);
        x.bar(false);
        enter(x, "true", 0, 9);
        dueSeek(x, "tr??", 0, 1, 7, 2, 4, 0);
        enter(x, "abcdefghijklmno", 3, 1);
        enter(x, "abcdefghijklmna", 3, 1);
        dueSeek(x, "???????????????", 3, 9, 8);
    }

    private static void candidate() {
        WordLists x = new WordLists();
        enter(x, "b", 0, 1);
        enter(x, "a", 0, 1);
        Check.dueThrow("candidate 0 before any seek", () -> x.candidate(0));
        dueSeek(x, "?", 0, 1, 0);
        int[] none = {Integer.MIN_VALUE, -1, 2, 3, 249, 250, Integer.MAX_VALUE};
        for (int k : none) {
            Check.dueThrow("candidate " + k, () -> x.candidate(k));
        }
    }

    private static void candidatesStay() {
        WordLists x = new WordLists();
        enter(x, "ab", 0, 1);
        enter(x, "ac", 0, 2);
        dueSeek(x, "a?", 0, 1, 0);
        enter(x, "ab", 0, 9);
        enter(x, "ad", 0, 9);
        row(x, "??");
        x.bar(true);
        x.merge(2, 0, 0, 0);
        x.fold('a', 'b');
        x.clear();
        Check.dueThrow("a seek in no such list", () -> x.seek(4));
        Check.due("candidate 0 stays", 1, x.candidate(0));
        Check.due("candidate 1 stays", 0, x.candidate(1));
        Check.dueThrow("no candidate comes", () -> x.candidate(2));
        Check.due("at stays", 2, x.at(0, 'a'));
        Check.due("seek anew", 0, x.seek(0));
        Check.dueThrow("the candidates are gone", () -> x.candidate(0));
        Check.due("at is gone", 0, x.at(0, 'a'));
    }

    private static void at() {
        WordLists x = new WordLists();
        enter(x, "az", 0, 1);
        enter(x, "aa", 0, 1);
        enter(x, "za", 0, 1);
        enter(x, "ab", 1, 1);
        enter(x, "aaa", 0, 1);
        dueSeek(x, "??", 0, 1, 0, 2);
        Check.due("a at 0", 2, x.at(0, 'a'));
        Check.due("a at 1", 2, x.at(1, 'a'));
        Check.due("z at 0", 1, x.at(0, 'z'));
        Check.due("z at 1", 1, x.at(1, 'z'));
        Check.due("b at 1", 0, x.at(1, 'b'));
        int[] noPlaces = {Integer.MIN_VALUE, -1, 2, 14, 15, 16, Integer.MAX_VALUE};
        for (int place : noPlaces) {
            Check.due("a at " + place, 0, x.at(place, 'a'));
        }
        for (int u : NO_LETTERS) {
            Check.dueThrow("at 0 the letter " + u, () -> x.at(0, u));
            Check.dueThrow("at -1 the letter " + u, () -> x.at(-1, u));
        }
        row(x, "zz");
        x.seek(0);
        Check.dueThrow("no letter, without candidates", () -> x.at(0, 96));
    }

    private static WordLists beginningsAndEnds() {
        WordLists x = new WordLists();
        enter(x, "ab", 0, 1);
        enter(x, "abab", 0, 1);
        enter(x, "cab", 0, 1);
        enter(x, "abc", 0, 1);
        enter(x, "ab", 3, 1);
        enter(x, "abcdefghijklmno", 3, 1);
        return x;
    }

    private static void dueBegins(WordLists x, String text, int list, int want) {
        row(x, text);
        Check.due("begins " + text + " in list " + list, want, x.begins(list));
    }

    private static void begins() {
        WordLists x = beginningsAndEnds();
        dueBegins(x, "ab", 0, 3);
        dueBegins(x, "", 0, 4);
        dueBegins(x, "", 3, 2);
        dueBegins(x, "", 1, 0);
        dueBegins(x, "?b", 0, 3);
        dueBegins(x, "?a", 0, 1);
        dueBegins(x, "???", 0, 3);
        dueBegins(x, "?????", 0, 0);
        dueBegins(x, "abcdefghijklmno", 3, 1);
        dueBegins(x, "abcdefghijklmn?", 3, 1);
        dueBegins(x, "abcdefghijklmnp", 3, 0);
        dueBegins(x, "b", 0, 0);
        row(x, "ab");
        x.bar(true);
        dueBegins(x, "ab", 0, 2);
        dueBegins(x, "", 0, 3);
        dueBegins(x, "a", 3, 1);
    }

    private static void dueEnds(WordLists x, String text, int list, int want) {
        row(x, text);
        Check.due("ends " + text + " in list " + list, want, x.ends(list));
    }

    private static void ends() {
        WordLists x = beginningsAndEnds();
        dueEnds(x, "ab", 0, 3);
        dueEnds(x, "", 0, 4);
        dueEnds(x, "", 3, 2);
        dueEnds(x, "", 1, 0);
        dueEnds(x, "a?", 0, 3);
        dueEnds(x, "b?", 0, 1);
        dueEnds(x, "???", 0, 3);
        dueEnds(x, "?????", 0, 0);
        dueEnds(x, "abcdefghijklmno", 3, 1);
        dueEnds(x, "?bcdefghijklmno", 3, 1);
        dueEnds(x, "o", 3, 1);
        dueEnds(x, "a", 0, 0);
        row(x, "ab");
        x.bar(true);
        dueEnds(x, "ab", 0, 2);
        dueEnds(x, "", 0, 3);
        dueEnds(x, "b", 3, 0);
    }

    private static void dueMixed(WordLists x, String text, int list, int want) {
        row(x, text);
        Check.due("mixed " + text + " in list " + list, want, x.mixed(list));
    }

    private static void mixed() {
        WordLists x = new WordLists();
        enter(x, "tree", 0, 1);
        enter(x, "reet", 0, 1);
        enter(x, "tert", 0, 1);
        enter(x, "trees", 0, 1);
        enter(x, "tre", 0, 1);
        enter(x, "abcdefghijklmno", 3, 1);
        dueMixed(x, "eetr", 0, 2);
        dueMixed(x, "ettr", 0, 1);
        dueMixed(x, "etr", 0, 1);
        dueMixed(x, "eeer", 0, 0);
        dueMixed(x, "e?tr", 0, 3);
        dueMixed(x, "?r?t", 0, 3);
        dueMixed(x, "ee??", 0, 2);
        dueMixed(x, "z???", 0, 0);
        dueMixed(x, "????", 0, 3);
        dueMixed(x, "s????", 0, 1);
        dueMixed(x, "", 0, 0);
        dueMixed(x, "etr", 1, 0);
        dueMixed(x, "onmlkjihgfedcba", 3, 1);
        dueMixed(x, "onmlkjihgfedcb?", 3, 1);
        dueMixed(x, "onmlkjihgfedcbb", 3, 0);
        dueMixed(x, "???????????????", 3, 1);
        enter(x, "cb", 2, 1);
        enter(x, "aa", 2, 1);
        enter(x, "zz", 2, 1);
        dueMixed(x, "ab", 2, 0);
        dueMixed(x, "bz", 2, 0);
        row(x, "tree");
        x.bar(true);
        dueMixed(x, "eetr", 0, 1);
        dueMixed(x, "????", 0, 2);
    }

    private static void many() {
        WordLists x = new WordLists();
        enter(x, "a", 0, 1);
        enter(x, "b", 0, 1);
        enter(x, "ab", 0, 1);
        enter(x, "c", 3, 1);
        enter(x, "abcdefghijklmno", 3, 1);
        row(x, "a");
        x.bar(true);
        Check.due("1 letter, barred ones too", 2, x.many(0, 1));
        Check.due("2 letters", 1, x.many(0, 2));
        Check.due("3 letters", 0, x.many(0, 3));
        Check.due("15 letters", 1, x.many(3, 15));
        Check.due("15 letters in list 0", 0, x.many(0, 15));
        int[] noLengths = {Integer.MIN_VALUE, -1, 0, 16, Integer.MAX_VALUE};
        for (int length : noLengths) {
            Check.due(length + " letters", -1, x.many(0, length));
            Check.dueThrow("no such list goes before a wrong length", () -> x.many(4, length));
        }
    }

    private static void letters() {
        WordLists x = new WordLists();
        enter(x, "banana", 0, 1);
        enter(x, "ab", 0, 1);
        enter(x, "za", 3, 1);
        row(x, "ab");
        x.bar(true);
        Check.due("a in list 0, barred ones too", 4, x.letters(0, 'a'));
        Check.due("b in list 0", 2, x.letters(0, 'b'));
        Check.due("z in list 0", 0, x.letters(0, 'z'));
        Check.due("z in list 3", 1, x.letters(3, 'z'));
        Check.due("a in list 1", 0, x.letters(1, 'a'));
        for (int u : NO_LETTERS) {
            Check.dueThrow("letters " + u, () -> x.letters(0, u));
            Check.dueThrow("letters " + u + " of an empty list", () -> x.letters(1, u));
            Check.dueThrow("letters " + u + " of no list", () -> x.letters(4, u));
        }
    }

    private static void letter() {
        WordLists x = new WordLists();
        enter(x, "abz", 0, 1);
        enter(x, "abcdefghijklmno", 0, 1);
        dueWord(x, 0, "abz");
        dueWord(x, 1, "abcdefghijklmno");
        int[] behind = {Integer.MIN_VALUE, -1, 15, 16, Integer.MAX_VALUE};
        for (int i : behind) {
            Check.due("letter " + i + " of word 0", -1, x.letter(0, i));
            Check.due("letter " + i + " of word 1", -1, x.letter(1, i));
        }
        Check.due("letter 3 of abz", -1, x.letter(0, 3));
        int[] noWords = {Integer.MIN_VALUE, -1, 2, 249, 250, Integer.MAX_VALUE};
        for (int word : noWords) {
            Check.dueThrow("letter 0 of word " + word, () -> x.letter(word, 0));
            Check.dueThrow("letter -1 of word " + word, () -> x.letter(word, -1));
            Check.dueThrow("letter 15 of word " + word, () -> x.letter(word, 15));
        }
    }

    private static void tell() {
        WordLists x = new WordLists();
        enter(x, "abc", 3, 1000);
        x.enter(1, 0);
        enter(x, "d", 0, 0);
        row(x, "abc");
        x.bar(true);
        int[] wantFirst = {1000, 10, 1, 3};
        int[] wantSecond = {0, 1, 0, 1};
        for (int what = 0; what < 4; what++) {
            Check.due("tell 0, " + what, wantFirst[what], x.tell(0, what));
            Check.due("tell 1, " + what, wantSecond[what], x.tell(1, what));
        }
        int[] others = {Integer.MIN_VALUE, -1, 4, 5, Integer.MAX_VALUE};
        for (int what : others) {
            Check.due("tell 0, " + what, -1, x.tell(0, what));
        }
        int[] noWords = {Integer.MIN_VALUE, -1, 2, 249, 250, Integer.MAX_VALUE};
        for (int word : noWords) {
            Check.dueThrow("tell " + word, () -> x.tell(word, 0));
            Check.dueThrow("tell " + word + ", 4", () -> x.tell(word, 4));
        }
        x.bar(false);
        Check.due("not barred any more", 0, x.tell(0, 2));
    }

    private static void common() {
        WordLists x = new WordLists();
        enter(x, "trees", 0, 1);
        Check.due("of one word all", 5, x.common(0));
        Check.due("of none 0", 0, x.common(1));
        enter(x, "treat", 0, 1);
        Check.due("trees, treat", 3, x.common(0));
        enter(x, "trees", 3, 1);
        enter(x, "tree", 3, 1);
        Check.due("trees, tree", 4, x.common(3));
        enter(x, "tr", 0, 1);
        Check.due("trees, treat, tr", 2, x.common(0));
        enter(x, "treat", 0, 1);
        enter(x, "xx", 0, 1);
        Check.due("nothing in common", 0, x.common(0));
        row(x, "??");
        x.bar(true);
        Check.due("tr and xx barred", 3, x.common(0));
        row(x, "tree?");
        x.bar(true);
        Check.due("trees barred, too", 5, x.common(0));
        row(x, "treat");
        x.bar(true);
        Check.due("all barred", 0, x.common(0));
        enter(x, "abcdefghijklmno", 2, 1);
        Check.due("of one word of 15 letters", 15, x.common(2));
        x.clear();
        Check.due("whatever the row has", 15, x.common(2));
    }

    private static void noSuchList() {
        WordLists x = new WordLists();
        row(x, "ab");
        for (int pass = 0; pass < 2; pass++) {
            for (int list : NO_LISTS) {
                Check.dueThrow("enter into list " + list, () -> x.enter(list, 1));
                Check.dueThrow("seek in list " + list, () -> x.seek(list));
                Check.dueThrow("begins in list " + list, () -> x.begins(list));
                Check.dueThrow("ends in list " + list, () -> x.ends(list));
                Check.dueThrow("mixed in list " + list, () -> x.mixed(list));
                Check.dueThrow("many in list " + list, () -> x.many(list, 1));
                Check.dueThrow("letters in list " + list, () -> x.letters(list, 'a'));
                Check.dueThrow("common in list " + list, () -> x.common(list));
            }
            if (pass == 0) {
                Check.due("no word came", 0, x.enter(0, 1));
            }
        }
    }
}
