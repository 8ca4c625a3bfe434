import java.util.ArrayList;
import java.util.Comparator;
import java.util.List;

/** The section "Terms", a method for each of its sentences that names a bound or an edge. */
public final class TermsTest {
    private static final int LEAST = Integer.MIN_VALUE;
    private static final int GREATEST = Integer.MAX_VALUE;
    private static final String ALPHABET = "abcdefghijklmnopqrstuvwxyz";
    private static final String FIFTEEN = "abcdefghijklmno";
    private static final String FIFTEEN_BLANKS = "???????????????";

    public static void main(String[] args) {
        theRowIsUpTo15Signs();
        theRowOf15IsUsedWhole();
        signsAreLettersAndBlanks();
        atFirstEachLetterToItself();
        aLetterIsFoldedOnce();
        theLastFoldingOfALetterCounts();
        aBlankStaysOne();
        theRowIsFoldedAsTheFoldingSaysThen();
        wordsKeepTheLettersThatTheyCameWith();
        numbersInTheOrderInWhichTheyCame();
        atMost250Words();
        eachHas1To15Letters();
        noTwoWordsTheSame();
        scoresOf0To1000();
        lists0To3();
        atFirstNotBarred();
        fitsWhenItHasAsManyLetters();
        fitsWhenItHasTheSameOnesAtAllPlacesWithoutABlank();
        candidatesByFallingScores();
        alikeOnesByTheirLetters();
        aHundredCandidatesInOrder();
        candidatesStayWhateverBecomesOfTheWords();
        candidatesStayUntilTheyAreSoughtAgain();
        Check.end();
    }

    private static void dueText(String what, String want, String got) {
        if (!want.equals(got)) {
            Check.report(what + " answered " + got + ", due is " + want);
        }
    }

    private static void theRowIsUpTo15Signs() {
        for (char u : "az?".toCharArray()) {
            Counted x = new Counted();
            for (int count = 1; count <= 15; count++) {
                Check.due("sign number " + count, true, x.sign(u));
            }
            for (int count = 16; count <= 18; count++) {
                Check.due("sign number " + count, false, x.sign(u));
                Check.due("sign number " + count + ", a blank", false, x.sign('?'));
            }
            x.clear();
            for (int count = 1; count <= 15; count++) {
                Check.due("sign number " + count + " after clear", true, x.sign(u));
            }
            Check.due("sign number 16 after clear", false, x.sign(u));
        }
    }

    private static void theRowOf15IsUsedWhole() {
        Counted x = new Counted();
        Check.due("enter 15 letters", 0, x.enter(FIFTEEN, 0, 1));
        Check.due("sign 16", false, x.sign('z'));
        Check.due("it is the same row", 0, x.enter(0, 1));
        dueText("the word of 15 letters", FIFTEEN, x.word(0));
        x.row(FIFTEEN_BLANKS.substring(1));
        Check.due("14 blanks fit no 15 letters", 0, x.seek(0));
        Check.due("but they are a beginning", 1, x.begins(0));
        Check.due("the 15th blank", true, x.sign('?'));
        Check.due("15 blanks fit", 1, x.seek(0));
        Check.due("the 16th blank", false, x.sign('?'));
        Check.due("15 blanks still fit", 1, x.seek(0));
        x.row(FIFTEEN_BLANKS.substring(1));
        Check.due("the 15th sign is looked at", true, x.sign('p'));
        Check.due("p is not the last letter", 0, x.seek(0));
    }

    private static void signsAreLettersAndBlanks() {
        for (int low = -66000; low < 66000; low += 250) {
            dueSignsFrom(low);
        }
        dueSignsFrom(LEAST);
        dueSignsFrom(GREATEST - 249);
        // The low 8, 16 and 24 bits are those of a sign.
        for (int shift : new int[] {8, 16, 24, 31}) {
            for (int u : new int[] {63, 97, 122}) {
                Counted x = new Counted();
                Check.due("sign " + (u + (1 << shift)), false, x.sign(u + (1 << shift)));
                Check.due("sign " + (u - (1 << shift)), false, x.sign(u - (1 << shift)));
                Check.due("none of them came", -1, x.enter(0, 1));
            }
        }
    }

    private static void dueSignsFrom(int low) {
        Counted x = new Counted();
        for (int i = 0; i < 250; i++) {
            int u = low + i;
            x.clear();
            Check.due("sign " + u, u == 63 || u >= 97 && u <= 122, x.sign(u));
        }
    }

    private static void dueFolded(String what, Counted x, String text, String want) {
        int word = x.enter(text, 0, 1);
        Check.due(what + ": " + text + " is entered", true, word >= 0);
        if (word >= 0) {
            dueText(what + ": " + text, want, x.word(word));
        }
    }

    private static void dueFoldedAlphabet(String what, Counted x, String want) {
        dueFolded(what, x, ALPHABET.substring(0, 13), want.substring(0, 13));
        dueFolded(what, x, ALPHABET.substring(13), want.substring(13));
    }

    private static void atFirstEachLetterToItself() {
        dueFoldedAlphabet("at first", new Counted(), ALPHABET);
    }

    private static void aLetterIsFoldedOnce() {
        Counted rising = new Counted();
        for (int u = 'a'; u <= 'z'; u++) {
            rising.fold(u, u == 'z' ? 'a' : u + 1);
        }
        dueFoldedAlphabet("each letter to the next one, from a on", rising, "bcdefghijklmnopqrstuvwxyza");
        Counted falling = new Counted();
        for (int u = 'z'; u >= 'a'; u--) {
            falling.fold(u, u == 'z' ? 'a' : u + 1);
        }
        dueFoldedAlphabet("each letter to the next one, from z on", falling, "bcdefghijklmnopqrstuvwxyza");
        Counted swapped = new Counted();
        swapped.fold('a', 'z');
        swapped.fold('z', 'a');
        dueFolded("a and z change places", swapped, "azbya", "zabyz");
    }

    private static void theLastFoldingOfALetterCounts() {
        Counted x = new Counted();
        x.fold('a', 'b');
        x.fold('a', 'c');
        dueFolded("a to b, then to c", x, "ab", "cb");
        x.fold('a', 'a');
        dueFolded("a to itself again", x, "ab", "ab");
        for (int u = 'a'; u <= 'z'; u++) {
            x.fold(u, 'z');
        }
        dueFolded("all letters to z", x, FIFTEEN, "zzzzzzzzzzzzzzz");
        dueFolded("z is folded, too", x, "zy", "zz");
    }

    private static void aBlankStaysOne() {
        Counted x = new Counted();
        x.enter("ba", 0, 1);
        x.enter("ca", 0, 1);
        x.enter("cb", 0, 1);
        for (int u = 'a'; u <= 'z'; u++) {
            x.fold(u, 'a');
        }
        dueText("?z under a folding of all letters to a", "0 1", x.row("?z").sought(0));
        dueText("??", "0 1 2", x.row("??").sought(0));
        Check.due("?? is no word", -1, x.enter(0, 1));
        Check.dueThrow("a blank is not folded", () -> x.fold('?', 'a'));
        Check.dueThrow("nothing is folded to a blank", () -> x.fold('a', '?'));
        dueText("?? after both", "0 1 2", x.sought(0));
    }

    /** The fold stands between the sign and the use, for each call that uses the row. */
    private static void theRowIsFoldedAsTheFoldingSaysThen() {
        Counted x = new Counted();
        x.enter("ab", 0, 1);
        x.row("xb");
        Check.due("seek xb", 0, x.seek(0));
        Check.due("begins xb", 0, x.begins(0));
        Check.due("ends xb", 0, x.ends(0));
        Check.due("mixed xb", 0, x.mixed(0));
        Check.due("bar xb", 0, x.bar(true));
        x.fold('x', 'a');
        Check.due("seek xb as ab", 1, x.seek(0));
        Check.due("begins xb as ab", 1, x.begins(0));
        Check.due("ends xb as ab", 1, x.ends(0));
        Check.due("mixed xb as ab", 1, x.mixed(0));
        Check.due("bar xb as ab", 1, x.bar(true));
        Check.due("bar xb as ab no more", 1, x.bar(false));
        Check.due("enter xb as ab", 0, x.enter(3, 1));
        x.fold('x', 'x');
        Check.due("seek xb as itself again", 0, x.seek(0));
        Check.due("begins xb as itself again", 0, x.begins(0));
        Check.due("ends xb as itself again", 0, x.ends(0));
        Check.due("mixed xb as itself again", 0, x.mixed(0));
        Check.due("bar xb as itself again", 0, x.bar(true));
        Check.due("enter xb as itself again", 1, x.enter(3, 1));
        dueText("the word xb", "xb", x.word(1));
    }

    private static void wordsKeepTheLettersThatTheyCameWith() {
        Counted x = new Counted();
        x.enter("ab", 0, 1);
        x.row("a?");
        x.seek(0);
        x.fold('a', 'c');
        dueText("the word after a fold", "ab", x.word(0));
        Check.due("at a", 1, x.at(0, 'a'));
        Check.due("at c", 0, x.at(0, 'c'));
        Check.due("letters a", 1, x.letters(0, 'a'));
        Check.due("letters c", 0, x.letters(0, 'c'));
        Check.due("a? is c? now", 0, x.seek(0));
        Check.due("the same letters are another word now", 1, x.enter("ab", 0, 1));
        dueText("that word", "cb", x.word(1));
        dueText("and the first one", "ab", x.word(0));
    }

    private static void numbersInTheOrderInWhichTheyCame() {
        Counted x = new Counted();
        Check.due("z comes first", 0, x.enter("z", 3, 0));
        Check.due("z again", 0, x.enter(1, 1000));
        Check.due("a blank takes no number", -1, x.enter("?", 0, 1));
        Check.due("an empty row takes no number", -1, x.enter("", 0, 1));
        Check.due("a wrong score takes no number", -1, x.enter("b", 0, 1001));
        Check.dueThrow("no list takes no number", () -> x.enter(4, 1));
        Check.due("b", 1, x.enter(0, 1000));
        Check.due("a", 2, x.enter("a", 2, 5));
        dueText("word 0", "z", x.word(0));
        dueText("word 1", "b", x.word(1));
        dueText("word 2", "a", x.word(2));
        Check.dueThrow("no word 3", () -> x.tell(3, 0));
    }

    private static void atMost250Words() {
        Counted less = FullObject.of(249, 0);
        Check.dueThrow("249 words: no word 249", () -> less.tell(249, 0));
        less.fold('a', FullObject.letterOf(249));
        Check.due("the 250th word", 249, less.enter(3, 1000));
        Check.due("its score", 1000, less.tell(249, 0));
        Check.due("its lists", 8, less.tell(249, 1));
        Check.due("its letters", 10, less.tell(249, 3));
        Check.due("its last letter", FullObject.letterOf(249), less.letter(249, 9));

        Counted x = FullObject.of(250, 0);
        x.fold('a', FullObject.letterOf(250));
        for (int list = 0; list < 4; list++) {
            Check.due("the 251st word, into list " + list, -1, x.enter(list, 1000));
        }
        Check.dueThrow("no word 250 to tell of", () -> x.tell(250, 0));
        Check.dueThrow("no word 250 with letters", () -> x.letter(250, 0));
        Check.due("no word of list 3", 0, x.merge(0, 3, 3, 3));
        Check.due("250 words of list 0", 250, x.merge(0, 0, 0, 0));
        Check.due("no word fits the row", 0, x.bar(true));
        Check.due("the last word has its score", 1, x.tell(249, 0));

        Counted again = FullObject.of(250, 0);
        Check.due("the 250th word comes again", 249, again.enter(3, 7));
        Check.due("its score", 7, again.tell(249, 0));
        Check.due("its lists", 9, again.tell(249, 1));
        again.fold('a', FullObject.letterOf(234));
        Check.due("a word ahead of it comes again", 234, again.enter(2, 8));
        Check.due("its score", 8, again.tell(234, 0));
        Check.due("a wrong score, among 250", -1, again.enter(2, 1001));
        Check.dueThrow("no list, among 250", () -> again.enter(4, 1));
        again.sign('a');
        Check.due("a longer word is the 251st, too", -1, again.enter(0, 1));
    }

    private static void eachHas1To15Letters() {
        Counted x = new Counted();
        Check.due("a word of 0 letters", -1, x.enter(0, 1));
        for (int length = 1; length <= 15; length++) {
            Check.due("sign " + length, true, x.sign('a'));
            Check.due("a word of " + length + " letters", length - 1, x.enter(0, 1));
            Check.due("its letters", length, x.tell(length - 1, 3));
            Check.due("its first letter", 'a', x.letter(length - 1, 0));
            Check.due("its last letter", 'a', x.letter(length - 1, length - 1));
            Check.due("behind its last letter", -1, x.letter(length - 1, length));
        }
        Check.due("sign 16", false, x.sign('a'));
        Check.due("the row is the word of 15 letters", 14, x.enter(0, 1));
        for (int length = 1; length <= 15; length++) {
            Check.due("words of " + length + " letters", 1, x.many(0, length));
        }
    }

    private static void noTwoWordsTheSame() {
        Counted x = new Counted();
        Check.due("enter ab", 0, x.enter("ab", 0, 1));
        Check.due("enter ab again", 0, x.enter("ab", 1, 1));
        Check.due("a beginning of it is another word", 1, x.enter("a", 0, 1));
        Check.due("an end of it is another word", 2, x.enter("b", 0, 1));
        Check.due("its letters the other way round are another word", 3, x.enter("ba", 0, 1));
        Check.due("a longer one is another word", 4, x.enter("abb", 0, 1));
        Check.due("15 letters", 5, x.enter(FIFTEEN, 0, 1));
        Check.due("15 letters, the last one another", 6, x.enter("abcdefghijklmnp", 0, 1));
        Check.due("15 letters, the first one another", 7, x.enter("bbcdefghijklmno", 0, 1));
        Check.due("15 letters again", 5, x.enter(FIFTEEN, 1, 1));
        x.fold('z', 'a');
        Check.due("zb is ab", 0, x.enter("zb", 2, 1));
        Check.due("15 letters with a folded one", 5, x.enter("zbcdefghijklmno", 2, 1));
        Check.due("the lists of ab", 7, x.tell(0, 1));
        Check.due("the lists of the 15 letters", 7, x.tell(5, 1));
        Check.dueThrow("eight words", () -> x.tell(8, 0));
    }

    private static void scoresOf0To1000() {
        int[] right = {0, 1, 2, 999, 1000};
        int[] wrong = {LEAST, LEAST + 1, -1000, -2, -1, 1001, 1002, 2000, GREATEST - 1, GREATEST};
        for (int score : right) {
            Counted x = new Counted();
            Check.due("a new word with score " + score, 0, x.enter("a", 0, score));
            Check.due("its score", score, x.tell(0, 0));
            for (int other : right) {
                Check.due("again with score " + other, 0, x.enter("a", 0, other));
                Check.due("the greater one of both", Math.max(score, other), x.tell(0, 0));
            }
        }
        for (int score : wrong) {
            Counted x = new Counted();
            Check.due("a new word with score " + score, -1, x.enter("a", 0, score));
            Check.dueThrow("there is no word", () -> x.tell(0, 0));
            Check.due("a word with score 500", 0, x.enter(0, 500));
            Check.due("again with score " + score, -1, x.enter(1, score));
            Check.due("its score stays", 500, x.tell(0, 0));
            Check.due("its lists stay", 1, x.tell(0, 1));
        }
    }

    private static void lists0To3() {
        Counted x = new Counted();
        for (int list = 0; list < 4; list++) {
            Check.due("a word of list " + list, list, x.enter("" + (char) ('a' + list), list, 1));
            Check.due("its lists", 1 << list, x.tell(list, 1));
            Check.due("words of list " + list, 1, x.many(list, 1));
        }
        x.row("z");
        int[] bits = {1, 3, 7, 15};
        for (int list = 0; list < 4; list++) {
            Check.due("z comes to list " + list, 4, x.enter(list, 1));
            Check.due("its lists", bits[list], x.tell(4, 1));
        }
        for (int list : new int[] {LEAST, -2, -1, 4, 5, 32, GREATEST}) {
            Check.dueThrow("z comes to list " + list, () -> x.enter(list, 1));
            Check.due("the lists of a stay", 1, x.tell(0, 1));
            Check.due("the lists of z stay", 15, x.tell(4, 1));
        }
    }

    private static void atFirstNotBarred() {
        Counted x = new Counted();
        x.enter("a", 0, 1);
        Check.due("at first not", 0, x.tell(0, 2));
        x.row("?");
        Check.due("bar all", 1, x.bar(true));
        Check.due("a word that comes later", 1, x.enter("b", 0, 1));
        Check.due("is not barred", 0, x.tell(1, 2));
        Check.due("the first one is", 1, x.tell(0, 2));
        Check.due("it comes again", 0, x.enter("a", 1, 2));
        Check.due("and is barred still", 1, x.tell(0, 2));
    }

    private static void fitsWhenItHasAsManyLetters() {
        for (int length = 1; length <= 15; length++) {
            Counted x = new Counted();
            x.enter(FIFTEEN.substring(0, length), 0, 1);
            for (int signs = 0; signs <= 15; signs++) {
                x.row(FIFTEEN_BLANKS.substring(0, signs));
                Check.due(signs + " blanks, " + length + " letters", signs == length ? 1 : 0, x.seek(0));
            }
        }
    }

    private static void fitsWhenItHasTheSameOnesAtAllPlacesWithoutABlank() {
        for (int place = 0; place < 15; place++) {
            Counted x = new Counted();
            x.enter(FIFTEEN, 0, 1);
            String front = FIFTEEN.substring(0, place);
            String back = FIFTEEN.substring(place + 1);
            Check.due("another letter at " + place, 0, x.row(front + "z" + back).seek(0));
            Check.due("a blank at " + place, 1, x.row(front + "?" + back).seek(0));
            String one = FIFTEEN_BLANKS.substring(0, place) + FIFTEEN.charAt(place) + FIFTEEN_BLANKS.substring(place + 1);
            Check.due("the one letter at " + place, 1, x.row(one).seek(0));
            Check.due("the one letter at " + place + ", another", 0, x.row(one.replace(FIFTEEN.charAt(place), 'z')).seek(0));
        }
    }

    private static void candidatesByFallingScores() {
        Counted x = new Counted();
        x.enter("a", 0, 0);
        x.enter("b", 0, 1);
        x.enter("c", 0, 999);
        x.enter("d", 0, 1000);
        x.enter("e", 0, 500);
        dueText("by falling scores", "3 2 4 1 0", x.row("?").sought(0));
        x.enter("a", 0, 1000);
        dueText("a with the score of d", "0 3 2 4 1", x.row("?").sought(0));
    }

    private static void alikeOnesByTheirLetters() {
        Counted x = new Counted();
        for (char u : "zamybn".toCharArray()) {
            x.enter("" + u, 0, 7);
        }
        dueText("one letter", "1 4 2 5 3 0", x.row("?").sought(0));
        x.enter("zba", 1, 0);
        x.enter("abz", 1, 0);
        x.enter("aca", 1, 0);
        x.enter("aba", 1, 0);
        x.enter("bab", 1, 1);
        dueText("the letters from the first one on", "10 9 7 8 6", x.row("???").sought(1));
        x.enter("aaaaaaaaaaaaaaz", 2, 1000);
        x.enter("aaaaaaaaaaaaaaa", 2, 1000);
        x.enter("aaaaaaaaaaaaaza", 2, 1000);
        x.enter("aaaaaaaaaaaaaay", 2, 1000);
        dueText("the last one of 15 letters", "12 14 11 13", x.row(FIFTEEN_BLANKS).sought(2));
    }

    /** The words ba, bh, bo, .. with scores of 0 to 4, in no order of letters or scores. */
    private static void aHundredCandidatesInOrder() {
        Counted x = new Counted();
        List<String> words = new ArrayList<>();
        List<Integer> sorted = new ArrayList<>();
        x.row("xy");
        for (int word = 0; word < 104; word++) {
            char first = (char) ('b' + word / 26 * 3 % 4);
            char second = (char) ('a' + word * 7 % 26);
            if (word % 26 == 0) {
                x.fold('x', first);
            }
            x.fold('y', second);
            Check.due("word " + word, word, x.enter(0, word * 3 % 5));
            words.add("" + first + second);
            sorted.add(word);
        }
        sorted.sort(Comparator.comparing((Integer word) -> -(word * 3 % 5)).thenComparing(word -> words.get(word)));
        Check.due("all are candidates", 104, x.row("??").seek(0));
        for (int k = 0; k < 104; k++) {
            Check.due("candidate " + k + " of 104", sorted.get(k), x.candidate(k));
        }
    }

    private static Counted withThreeCandidates() {
        Counted x = new Counted();
        x.enter("ab", 0, 1);
        x.enter("ac", 0, 2);
        x.enter("bb", 0, 3);
        dueText("sought", "2 1 0", x.row("??").sought(0));
        return x;
    }

    private static void dueThreeCandidates(String what, Counted x) {
        dueText(what, "2 1 0", x.candidates(3));
        Check.due(what + ": at 0 an a", 2, x.at(0, 'a'));
        Check.due(what + ": at 1 a b", 2, x.at(1, 'b'));
        Check.due(what + ": at 1 a c", 1, x.at(1, 'c'));
        Check.due(what + ": at 2 an a", 0, x.at(2, 'a'));
    }

    private static void candidatesStayWhateverBecomesOfTheWords() {
        Counted x = withThreeCandidates();
        x.enter("ab", 0, 1000);
        dueThreeCandidates("another score", x);
        x.enter("aa", 0, 1000);
        dueThreeCandidates("a new word", x);
        x.row("??");
        x.bar(true);
        dueThreeCandidates("all barred", x);
        x.bar(false);
        dueThreeCandidates("none barred", x);
        x.merge(2, 0, 0, 0);
        dueThreeCandidates("of no list", x);
        x.fold('a', 'z');
        x.fold('b', 'c');
        dueThreeCandidates("another folding", x);
        x.clear();
        dueThreeCandidates("another row", x);
        dueText("the row and the list are looked at only when sought", "", x.row("??").sought(0));
    }

    private static void candidatesStayUntilTheyAreSoughtAgain() {
        Counted x = withThreeCandidates();
        for (int list : new int[] {LEAST, -1, 4, GREATEST}) {
            Check.dueThrow("seek in list " + list, () -> x.seek(list));
            dueThreeCandidates("a seek in no list", x);
        }
        x.row("a?");
        dueThreeCandidates("a row that was not sought", x);
        dueText("fewer candidates", "1 0", x.sought(0));
        Check.due("at 0 a b is gone", 0, x.at(0, 'b'));
        dueText("more candidates again", "2 1 0", x.row("??").sought(0));
        dueText("none in another list", "", x.sought(1));
        Check.due("at 0 an a is gone", 0, x.at(0, 'a'));
        x.sought(0);
        dueText("none with an empty row", "", x.row("").sought(0));
        Check.due("at 1 a b is gone", 0, x.at(1, 'b'));
    }
}
