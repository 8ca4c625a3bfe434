/** The edges that each promise names: the call at the bound, just inside it and just outside it. */
public final class EdgesTest {
    private static final int LEAST = Integer.MIN_VALUE;
    private static final int GREATEST = Integer.MAX_VALUE;
    private static final String FIFTEEN = "abcdefghijklmno";
    private static final String BLANKS = "???????????????";

    public static void main(String[] args) {
        newObjectHasNoWordsAndAnEmptyRow();
        signDoesNothingWhenItIsNone();
        clearOfAnEmptyAndOfAFullRow();
        foldOfTheFirstAndLastLetter();
        enterTheGreaterScore();
        enterNothingOrABlank();
        enterLeavesTheRow();
        barCountsWhatIsOtherwise();
        barWithAnEmptyRow();
        mergeOfAllListsInAllWays();
        mergeHow();
        seekFindsNone();
        seekPassesBarredWords();
        candidateAtBothEnds();
        atPlaces();
        atLetters();
        beginsWithAnEmptyRow();
        beginsAndEndsAsLongAsTheWord();
        endsWithAnEmptyRow();
        mixedOfAsManyLetters();
        mixedCountsEachLetter();
        mixedBlanks();
        manyOf1To15();
        lettersAToZ();
        lettersAtMost();
        letterPlaces();
        letterAndTellWords();
        tell0To3();
        commonOfNoneAndOne();
        commonOfTwo();
        commonPassesBarredWords();
        Check.end();
    }

    private static void dueText(String what, String want, String got) {
        if (!want.equals(got)) {
            Check.report(what + " answered " + got + ", due is " + want);
        }
    }

    private static void newObjectHasNoWordsAndAnEmptyRow() {
        Counted x = new Counted();
        for (int word : new int[] {LEAST, -1, 0, 1, 249, 250, GREATEST}) {
            Check.dueThrow("new: tell " + word, () -> x.tell(word, 0));
            Check.dueThrow("new: letter " + word, () -> x.letter(word, 0));
            Check.dueThrow("new: candidate " + word, () -> x.candidate(word));
        }
        for (int list = 0; list < 4; list++) {
            Check.due("new: enter", -1, x.enter(list, 1));
            Check.due("new: begins", 0, x.begins(list));
            Check.due("new: ends", 0, x.ends(list));
            Check.due("new: mixed", 0, x.mixed(list));
            Check.due("new: seek", 0, x.seek(list));
            Check.due("new: common", 0, x.common(list));
            for (int length = 1; length <= 15; length++) {
                Check.due("new: many", 0, x.many(list, length));
            }
            for (int letter = 'a'; letter <= 'z'; letter++) {
                Check.due("new: letters", 0, x.letters(list, letter));
            }
            for (int how = 0; how < 3; how++) {
                Check.due("new: merge", 0, x.merge(how, list, 0, 1));
            }
        }
        Check.due("new: bar", 0, x.bar(true));
        Check.due("new: bar no more", 0, x.bar(false));
        Check.due("new: at", 0, x.at(0, 'a'));
        Check.due("the first word", 0, x.enter("a", 0, 1));
    }

    private static void signDoesNothingWhenItIsNone() {
        Counted x = new Counted();
        for (int u : new int[] {LEAST, -1, 0, 62, 64, 96, 123, GREATEST}) {
            Check.due("sign " + u + " in an empty row", false, x.sign(u));
        }
        Check.due("the row is empty still", -1, x.enter(0, 1));
        x.row("a");
        for (int u : new int[] {LEAST, -1, 0, 62, 64, 96, 123, GREATEST}) {
            Check.due("sign " + u + " behind an a", false, x.sign(u));
        }
        x.sign('z');
        Check.due("enter the row", 0, x.enter(0, 1));
        dueText("the row had a and z", "az", x.word(0));
        for (int u : new int[] {63, 97, 122}) {
            x.row(FIFTEEN.substring(1));
            Check.due("sign " + u + " as the 15th", true, x.sign(u));
            Check.due("sign " + u + " as the 16th", false, x.sign(u));
        }
    }

    private static void clearOfAnEmptyAndOfAFullRow() {
        Counted x = new Counted();
        x.clear();
        x.clear();
        Check.due("an empty row, cleared", -1, x.enter(0, 1));
        Check.due("enter 15 letters", 0, x.enter(FIFTEEN, 0, 1));
        x.clear();
        Check.due("a full row, cleared", -1, x.enter(0, 1));
        Check.due("nothing fits it", 0, x.seek(0));
        Check.due("all begin with it", 1, x.begins(0));
        Check.due("one sign", true, x.sign('z'));
        Check.due("enter one letter", 1, x.enter(0, 1));
        dueText("nothing of the full row is left", "z", x.word(1));
        x.row(BLANKS);
        x.clear();
        x.sign('y');
        Check.due("no blank is left", 2, x.enter(0, 1));
    }

    private static void foldOfTheFirstAndLastLetter() {
        Counted x = new Counted();
        x.fold('a', 'z');
        x.fold('z', 'm');
        x.fold('m', 'a');
        x.enter("azm", 0, 1);
        dueText("a to z, z to m, m to a", "zma", x.word(0));
        for (int u : new int[] {LEAST, -1, 0, 63, 96, 123, GREATEST}) {
            for (int letter : new int[] {'a', 'm', 'z'}) {
                Check.dueThrow("fold " + letter + " to " + u, () -> x.fold(letter, u));
                Check.dueThrow("fold " + u + " to " + letter, () -> x.fold(u, letter));
            }
        }
        Check.due("the folding is as before", 0, x.enter(0, 1));
        Check.due("all other letters, too", 1, x.enter("bcdefghijkl", 0, 1));
        dueText("b to l", "bcdefghijkl", x.word(1));
        Check.due("all other letters, too", 2, x.enter("nopqrstuvwxy", 0, 1));
        dueText("n to y", "nopqrstuvwxy", x.word(2));
    }

    private static void enterTheGreaterScore() {
        Counted x = new Counted();
        Check.due("score 500", 0, x.enter("a", 0, 500));
        int[] scores = {0, 499, 500, 501, 500, 999, 1000, 999, 0};
        int[] greatest = {500, 500, 500, 501, 501, 999, 1000, 1000, 1000};
        for (int i = 0; i < scores.length; i++) {
            Check.due("again with score " + scores[i], 0, x.enter(i % 4, scores[i]));
            Check.due("the greater one of both", greatest[i], x.tell(0, 0));
        }
        Check.due("score 0 twice", 1, x.enter("b", 0, 0));
        Check.due("score 0 twice", 1, x.enter(0, 0));
        Check.due("is score 0", 0, x.tell(1, 0));
    }

    private static void enterNothingOrABlank() {
        for (int length = 1; length <= 15; length++) {
            for (int place = 0; place < length; place++) {
                Counted x = new Counted();
                String text = FIFTEEN.substring(0, length);
                Check.due("the word " + text, 0, x.enter(text, 0, 1));
                x.row(text.substring(0, place) + "?" + text.substring(place + 1));
                Check.due("a blank at " + place + " of " + length, -1, x.enter(1, 5));
                Check.due("the word has its score", 1, x.tell(0, 0));
                Check.due("the word has its lists", 1, x.tell(0, 1));
                Check.dueThrow("no second word", () -> x.tell(1, 0));
                x.clear();
                Check.due("an empty row", -1, x.enter(1, 5));
                Check.due("the word has its score", 1, x.tell(0, 0));
                Check.due("the word has its lists", 1, x.tell(0, 1));
                Check.dueThrow("no second word", () -> x.tell(1, 0));
            }
        }
    }

    private static void enterLeavesTheRow() {
        Counted x = new Counted();
        Check.due("enter 14 letters", 0, x.enter(FIFTEEN.substring(0, 14), 0, 1));
        Check.due("a wrong score", -1, x.enter(0, 1001));
        Check.dueThrow("no such list", () -> x.enter(4, 1));
        Check.due("one sign more", true, x.sign('o'));
        Check.due("is 15 letters", 1, x.enter(0, 1));
        dueText("all of them", FIFTEEN, x.word(1));
        x.row("a?");
        Check.due("a blank", -1, x.enter(0, 1));
        x.sign('c');
        Check.due("the row with its blank begins both", 2, x.begins(0));
    }

    private static void barCountsWhatIsOtherwise() {
        Counted x = new Counted();
        x.row("?");
        Check.due("no words", 0, x.bar(true));
        x.enter("a", 0, 1);
        x.enter("b", 3, 1);
        x.enter("c", 1, 1);
        x.merge(2, 1, 1, 1);
        x.enter("ab", 0, 1);
        x.row("b");
        Check.due("none is barred: unbar", 0, x.bar(false));
        Check.due("bar one", 1, x.bar(true));
        Check.due("bar it again", 0, x.bar(true));
        x.row("?");
        Check.due("bar the two others, one of no list", 2, x.bar(true));
        Check.due("bar them again", 0, x.bar(true));
        Check.due("the longer word is not barred", 0, x.tell(3, 2));
        Check.due("unbar all three", 3, x.bar(false));
        Check.due("unbar them again", 0, x.bar(false));
        for (int word = 0; word < 4; word++) {
            Check.due("word " + word + " is not barred", 0, x.tell(word, 2));
        }
        Counted full = FullObject.of(249, 0);
        Check.due("bar the last word", 1, full.bar(true));
        full.fold('a', FullObject.letterOf(249));
        Check.due("bar a word that has not come", 0, full.bar(true));
        full.row("??????");
        Check.due("bar 26 words of 6 letters", 26, full.bar(true));
    }

    private static void barWithAnEmptyRow() {
        Counted x = new Counted();
        x.enter("a", 0, 1);
        x.clear();
        Check.due("nothing fits an empty row", 0, x.bar(true));
        Check.due("a is not barred", 0, x.tell(0, 2));
        x.row("?");
        x.bar(true);
        x.clear();
        Check.due("nothing fits an empty row", 0, x.bar(false));
        Check.due("a is barred still", 1, x.tell(0, 2));
    }

    /** Word number n is of the lists whose bits n has. */
    private static Counted withAWordForEachSetOfLists() {
        Counted x = new Counted();
        for (int word = 0; word < 16; word++) {
            x.row("" + (char) ('a' + word));
            for (int list = 0; list < 4; list++) {
                if ((word >> list & 1) == 1) {
                    x.enter(list, 1);
                }
            }
            if (word == 0) {
                x.enter(0, 1);
                x.merge(2, 0, 0, 0);
            }
        }
        return x;
    }

    private static void mergeOfAllListsInAllWays() {
        for (int how = 0; how < 3; how++) {
            for (int lists = 0; lists < 64; lists++) {
                dueMerged(how, lists & 3, lists >> 2 & 3, lists >> 4);
            }
        }
    }

    private static void dueMerged(int how, int to, int a, int b) {
        Counted x = withAWordForEachSetOfLists();
        String what = "merge " + how + " to " + to + " of " + a + " and " + b;
        int got = x.merge(how, to, a, b);
        int want = 0;
        for (int word = 0; word < 16; word++) {
            boolean ofA = (word >> a & 1) == 1;
            boolean ofB = (word >> b & 1) == 1;
            boolean chosen = how == 0 ? ofA || ofB : how == 1 ? ofA && ofB : ofA && !ofB;
            want += chosen ? 1 : 0;
            Check.due(what + ": lists of word " + word, chosen ? word | 1 << to : word & ~(1 << to), x.tell(word, 1));
        }
        Check.due(what, want, got);
    }

    private static void mergeHow() {
        for (int how : new int[] {LEAST, -2, -1, 3, 4, GREATEST}) {
            Counted x = withAWordForEachSetOfLists();
            Check.due("merge " + how, -1, x.merge(how, 0, 1, 2));
            for (int word = 0; word < 16; word++) {
                Check.due("merge " + how + ": lists of word " + word, word, x.tell(word, 1));
            }
        }
        for (int list : new int[] {LEAST, -1, 4, GREATEST}) {
            Counted x = withAWordForEachSetOfLists();
            for (int each = -1; each < 4; each++) {
                int how = each;
                Check.dueThrow("merge " + how + " to " + list, () -> x.merge(how, list, 1, 2));
                Check.dueThrow("merge " + how + " of " + list, () -> x.merge(how, 0, list, 2));
                Check.dueThrow("merge " + how + " with " + list, () -> x.merge(how, 0, 1, list));
            }
            for (int word = 0; word < 16; word++) {
                Check.due("no list " + list + ": lists of word " + word, word, x.tell(word, 1));
            }
        }
        Counted empty = new Counted();
        empty.enter("a", 0, 1);
        Check.due("two empty lists", 0, empty.merge(0, 0, 1, 2));
        Check.due("make an empty one", 0, empty.tell(0, 1));
        Check.due("its word is there still", 1, empty.tell(0, 3));
    }

    private static void seekFindsNone() {
        Counted x = new Counted();
        x.enter("a", 0, 1);
        x.enter("abc", 0, 1);
        Check.due("an empty row", 0, x.row("").seek(0));
        Check.due("as many letters, another one", 0, x.row("b").seek(0));
        Check.due("one sign more", 0, x.row("a?").seek(0));
        Check.due("one sign less", 0, x.row("ab").seek(0));
        Check.due("another list", 0, x.row("a").seek(1));
        Check.dueThrow("no candidates", () -> x.candidate(0));
        Check.due("the one", 1, x.seek(0));
        Check.due("is the word", 0, x.candidate(0));
    }

    private static void seekPassesBarredWords() {
        Counted x = new Counted();
        x.enter("a", 0, 1);
        x.enter("b", 0, 1);
        x.row("a");
        x.bar(true);
        dueText("a is barred", "1", x.row("?").sought(0));
        x.bar(true);
        dueText("both are barred", "", x.sought(0));
        x.bar(false);
        dueText("none is barred", "0 1", x.sought(0));
    }

    private static void candidateAtBothEnds() {
        Counted x = new Counted();
        Check.dueThrow("before any seek", () -> x.candidate(0));
        for (char u : "abcde".toCharArray()) {
            x.enter("" + u, 0, u == 'e' ? 2 : 1);
        }
        Check.due("seek", 5, x.row("?").seek(0));
        Check.due("the first one", 4, x.candidate(0));
        Check.due("the one behind it", 0, x.candidate(1));
        Check.due("the one ahead of the last one", 2, x.candidate(3));
        Check.due("the last one", 3, x.candidate(4));
        for (int k : new int[] {LEAST, -2, -1, 5, 6, 249, 250, GREATEST}) {
            Check.dueThrow("candidate " + k, () -> x.candidate(k));
        }
        Check.due("seek one", 1, x.row("c").seek(0));
        Check.due("the one", 2, x.candidate(0));
        Check.dueThrow("candidate 1 of earlier", () -> x.candidate(1));
        Check.dueThrow("candidate 4 of earlier", () -> x.candidate(4));
    }

    private static void atPlaces() {
        Counted x = new Counted();
        x.enter(FIFTEEN, 0, 1);
        x.enter("zbcdefghijklmno", 0, 1);
        x.enter("ab", 0, 1);
        x.row(BLANKS).seek(0);
        Check.due("the first place, a", 1, x.at(0, 'a'));
        Check.due("the first place, z", 1, x.at(0, 'z'));
        for (int place = 1; place < 15; place++) {
            Check.due("place " + place, 2, x.at(place, 'a' + place));
            Check.due("place " + place + ", the letter before", 0, x.at(place, 'a' + place - 1));
        }
        for (int place : new int[] {LEAST, LEAST + 1, -2, -1, 15, 16, 29, 30, GREATEST - 1, GREATEST}) {
            for (int letter : new int[] {'a', 'b', 'o', 'z'}) {
                Check.due("place " + place, 0, x.at(place, letter));
            }
        }
        x.row("??").seek(0);
        Check.due("the last place of two, b", 1, x.at(1, 'b'));
        for (int place = 2; place < 17; place++) {
            for (int letter : new int[] {'a', 'b', 'c', 'o', 'z'}) {
                Check.due("place " + place + " behind two letters", 0, x.at(place, letter));
            }
        }
    }

    private static void atLetters() {
        Counted x = new Counted();
        x.enter("az", 0, 1);
        for (int pass = 0; pass < 2; pass++) {
            Check.due("an a", pass, x.at(0, 'a'));
            Check.due("a z", pass, x.at(1, 'z'));
            for (int letter : new int[] {LEAST, -1, 0, 63, 96, 123, GREATEST}) {
                for (int place : new int[] {LEAST, -1, 0, 1, 2, 15, GREATEST}) {
                    Check.dueThrow("at " + place + " the letter " + letter, () -> x.at(place, letter));
                }
            }
            x.row("??").seek(0);
        }
    }

    private static void beginsWithAnEmptyRow() {
        Counted x = new Counted();
        x.row("");
        Check.due("no words", 0, x.begins(0));
        x.enter("a", 0, 1);
        x.enter(FIFTEEN, 0, 1);
        x.enter("b", 3, 1);
        x.row("");
        Check.due("all of list 0", 2, x.begins(0));
        Check.due("none of list 1", 0, x.begins(1));
        Check.due("all of list 3", 1, x.begins(3));
        x.row("a").bar(true);
        x.row("");
        Check.due("all that are not barred", 1, x.begins(0));
    }

    private static void endsWithAnEmptyRow() {
        Counted x = new Counted();
        x.row("");
        Check.due("no words", 0, x.ends(0));
        x.enter("a", 0, 1);
        x.enter(FIFTEEN, 0, 1);
        x.enter("b", 3, 1);
        x.row("");
        Check.due("all of list 0", 2, x.ends(0));
        Check.due("none of list 1", 0, x.ends(1));
        Check.due("all of list 3", 1, x.ends(3));
        x.row("a").bar(true);
        x.row("");
        Check.due("all that are not barred", 1, x.ends(0));
    }

    private static void beginsAndEndsAsLongAsTheWord() {
        for (int length = 1; length <= 15; length++) {
            Counted x = new Counted();
            String text = FIFTEEN.substring(0, length);
            x.enter(text, 0, 1);
            String what = " of a word of " + length;
            for (int signs = 0; signs <= 15; signs++) {
                int want = signs <= length ? 1 : 0;
                x.row(FIFTEEN.substring(0, signs));
                Check.due("the first " + signs + what, want, x.begins(0));
                String back = signs <= length ? text.substring(length - signs) : BLANKS.substring(15 - signs + length) + text;
                x.row(back);
                Check.due("the last " + signs + what, want, x.ends(0));
                x.row(BLANKS.substring(0, signs));
                Check.due(signs + " blanks at the beginning" + what, want, x.begins(0));
                Check.due(signs + " blanks at the end" + what, want, x.ends(0));
            }
        }
        Counted x = new Counted();
        x.enter(FIFTEEN, 0, 1);
        Check.due("another last sign", 0, x.row("abz").begins(0));
        Check.due("a blank for it", 1, x.row("ab?").begins(0));
        Check.due("another first sign", 0, x.row("zno").ends(0));
        Check.due("a blank for it", 1, x.row("?no").ends(0));
        Check.due("15 blanks", 1, x.row(BLANKS).begins(0));
        Check.due("15 blanks", 1, x.ends(0));
        Check.due("a word begins, and does not end so", 0, x.row("ab").ends(0));
        Check.due("a word ends, and does not begin so", 0, x.row("no").begins(0));
    }

    private static void mixedOfAsManyLetters() {
        Counted x = new Counted();
        Check.due("no words, an empty row", 0, x.mixed(0));
        x.enter("abc", 0, 1);
        Check.due("an empty row", 0, x.row("").mixed(0));
        Check.due("one letter less", 0, x.row("ba").mixed(0));
        Check.due("just the letters", 1, x.row("bca").mixed(0));
        Check.due("one letter more", 0, x.row("bcaa").mixed(0));
        Check.due("two blanks", 0, x.row("??").mixed(0));
        Check.due("three blanks", 1, x.row("???").mixed(0));
        Check.due("four blanks", 0, x.row("????").mixed(0));
        x.enter(FIFTEEN, 0, 1);
        Check.due("15 letters in some order", 1, x.row("onmlkjihgfedcba").mixed(0));
        Check.due("14 of them", 0, x.row("nmlkjihgfedcba").mixed(0));
        Check.due("15 blanks", 1, x.row(BLANKS).mixed(0));
        Check.due("in another list", 0, x.mixed(1));
        x.bar(true);
        Check.due("barred", 0, x.mixed(0));
    }

    private static void mixedCountsEachLetter() {
        Counted x = new Counted();
        x.enter("aabb", 0, 1);
        Check.due("as often", 1, x.row("abab").mixed(0));
        Check.due("one a too many", 0, x.row("aaab").mixed(0));
        Check.due("one b too many", 0, x.row("abbb").mixed(0));
        Check.due("another letter", 0, x.row("abac").mixed(0));
        x.enter("aaaaaaaaaaaaaaa", 1, 1);
        Check.due("15 times a", 1, x.row("aaaaaaaaaaaaaaa").mixed(1));
        Check.due("14 times a, once z", 0, x.row("aaaaaaaaaaaaaaz").mixed(1));
        Check.due("14 times a, a blank", 1, x.row("?aaaaaaaaaaaaaa").mixed(1));
        x.enter("zaz", 2, 1);
        Check.due("z twice", 1, x.row("zza").mixed(2));
        x.fold('y', 'z');
        Check.due("y is z", 1, x.row("yza").mixed(2));
        x.fold('z', 'y');
        Check.due("and z is y then", 0, x.row("yza").mixed(2));
    }

    private static void mixedBlanks() {
        Counted x = new Counted();
        x.enter("abc", 0, 1);
        x.enter("abd", 0, 1);
        x.enter("aaa", 0, 1);
        Check.due("no blank", 1, x.row("cba").mixed(0));
        Check.due("one blank", 2, x.row("b?a").mixed(0));
        Check.due("two blanks", 3, x.row("?a?").mixed(0));
        Check.due("two blanks, a letter of one word", 1, x.row("??d").mixed(0));
        Check.due("three blanks", 3, x.row("???").mixed(0));
        Check.due("a letter that none has", 0, x.row("z??").mixed(0));
        Check.due("a letter too often", 1, x.row("aa?").mixed(0));
    }

    private static void manyOf1To15() {
        Counted x = new Counted();
        x.enter("a", 0, 1);
        x.enter("b", 0, 1);
        x.enter(FIFTEEN.substring(0, 14), 0, 1);
        x.enter(FIFTEEN, 0, 1);
        x.enter("abcdefghijklmnp", 0, 1);
        x.row(BLANKS).bar(true);
        Check.due("1 letter", 2, x.many(0, 1));
        Check.due("2 letters", 0, x.many(0, 2));
        Check.due("14 letters", 1, x.many(0, 14));
        Check.due("15 letters, barred", 2, x.many(0, 15));
        for (int length : new int[] {LEAST, LEAST + 1, -15, -1, 0, 16, 17, GREATEST - 1, GREATEST}) {
            for (int list = 0; list < 4; list++) {
                Check.due(length + " letters in list " + list, -1, x.many(list, length));
            }
        }
        for (int list : new int[] {LEAST, -1, 4, GREATEST}) {
            for (int length : new int[] {LEAST, 0, 1, 15, 16, GREATEST}) {
                Check.dueThrow(length + " letters in list " + list, () -> x.many(list, length));
            }
        }
        Check.due("15 letters in an empty list", 0, x.many(3, 15));
        Check.due("26 words of 9 letters", 26, FullObject.of(249, 3).many(3, 9));
    }

    private static void lettersAToZ() {
        Counted x = new Counted();
        x.enter("abcdefghijklm", 0, 1);
        x.enter("nopqrstuvwxyz", 0, 1);
        x.enter("za", 0, 1);
        x.enter("a", 3, 1);
        x.row("??").bar(true);
        for (int letter = 'a'; letter <= 'z'; letter++) {
            Check.due("letter " + letter, letter == 'a' || letter == 'z' ? 2 : 1, x.letters(0, letter));
            Check.due("letter " + letter + " in list 3", letter == 'a' ? 1 : 0, x.letters(3, letter));
            Check.due("letter " + letter + " in list 1", 0, x.letters(1, letter));
        }
        for (int letter : new int[] {LEAST, -1, 0, 63, 96, 123, GREATEST}) {
            for (int list : new int[] {LEAST, -1, 0, 1, 3, 4, GREATEST}) {
                Check.dueThrow("letter " + letter + " in list " + list, () -> x.letters(list, letter));
            }
        }
        for (int list : new int[] {LEAST, -1, 4, GREATEST}) {
            Check.dueThrow("a in list " + list, () -> x.letters(list, 'a'));
            Check.dueThrow("z in list " + list, () -> x.letters(list, 'z'));
        }
    }

    /** Each block of 26 words has each letter as often as the block's words are long. */
    private static void lettersAtMost() {
        Counted x = FullObject.of(234, 2);
        Check.due("1 + 2 + .. + 9 times a", 45, x.letters(2, 'a'));
        Check.due("1 + 2 + .. + 9 times z", 45, x.letters(2, 'z'));
        x.row(BLANKS.replace('?', 'q')).enter(2, 1);
        Check.due("and 15 times q", 60, x.letters(2, 'q'));
    }

    private static void letterPlaces() {
        for (int length = 1; length <= 15; length++) {
            Counted x = new Counted();
            x.enter("y", 0, 1);
            x.enter(FIFTEEN.substring(0, length), 0, 1);
            x.enter("zzzzzzzzzzzzzzz", 0, 1);
            for (int i = 0; i < length; i++) {
                Check.due("letter " + i + " of " + length, 'a' + i, x.letter(1, i));
            }
            for (int i = length; i <= 31; i++) {
                Check.due("letter " + i + " of " + length, -1, x.letter(1, i));
            }
            for (int i : new int[] {LEAST, LEAST + 1, -16, -15, -2, -1, GREATEST - 1, GREATEST}) {
                Check.due("letter " + i + " of " + length, -1, x.letter(1, i));
            }
        }
    }

    private static void letterAndTellWords() {
        Counted x = new Counted();
        for (int count = 0; count < 5; count++) {
            for (int word : new int[] {LEAST, -1, count, count + 1, 249, 250, GREATEST}) {
                for (int i : new int[] {LEAST, -1, 0, 15, GREATEST}) {
                    Check.dueThrow("letter " + i + " of word " + word, () -> x.letter(word, i));
                }
                Check.dueThrow("tell 0 of word " + word, () -> x.tell(word, 0));
                Check.dueThrow("tell -1 of word " + word, () -> x.tell(word, -1));
                Check.dueThrow("tell 4 of word " + word, () -> x.tell(word, 4));
            }
            Check.due("one more word", count, x.enter("" + (char) ('a' + count), 0, count));
            Check.due("its letter", 'a' + count, x.letter(count, 0));
            Check.due("its score", count, x.tell(count, 0));
        }
        Counted full = FullObject.of(250, 0);
        Check.due("letter 9 of word 249", FullObject.letterOf(249), full.letter(249, 9));
        Check.due("letter 10 of word 249", -1, full.letter(249, 10));
        Check.due("score of word 249", 1, full.tell(249, 0));
        Check.dueThrow("letter 0 of word 250", () -> full.letter(250, 0));
        Check.dueThrow("tell 0 of word 250", () -> full.tell(250, 0));
        Check.dueThrow("letter 0 of word 251", () -> full.letter(251, 0));
        Check.dueThrow("tell 0 of word 251", () -> full.tell(251, 0));
    }

    private static void tell0To3() {
        Counted x = new Counted();
        x.enter(FIFTEEN, 0, 1000);
        x.enter(1, 0);
        x.enter(2, 0);
        x.enter(3, 0);
        x.bar(true);
        Check.due("the score", 1000, x.tell(0, 0));
        Check.due("the lists", 15, x.tell(0, 1));
        Check.due("barred", 1, x.tell(0, 2));
        Check.due("how many letters", 15, x.tell(0, 3));
        for (int list = 0; list < 4; list++) {
            x.merge(2, list, list, list);
        }
        x.bar(false);
        Check.due("no lists", 0, x.tell(0, 1));
        Check.due("not barred", 0, x.tell(0, 2));
        for (int what : new int[] {LEAST, LEAST + 1, -2, -1, 4, 5, GREATEST - 1, GREATEST}) {
            Check.due("tell " + what, -1, x.tell(0, what));
        }
        Check.due("the score", 1000, x.tell(0, 0));
        Check.due("how many letters", 15, x.tell(0, 3));
    }

    private static void commonOfNoneAndOne() {
        for (int length = 1; length <= 15; length++) {
            Counted x = new Counted();
            Check.due("of no word", 0, x.common(0));
            x.enter(FIFTEEN.substring(0, length), 0, 1);
            Check.due("of one word all", length, x.common(0));
            Check.due("of no word in list 3", 0, x.common(3));
            x.bar(true);
            Check.due("of one word that is barred", 0, x.common(0));
            x.bar(false);
            Check.due("of one word all, again", length, x.common(0));
            x.merge(2, 0, 0, 0);
            Check.due("of no word any more", 0, x.common(0));
        }
    }

    private static void commonOfTwo() {
        for (int alike = 0; alike < 15; alike++) {
            Counted x = new Counted();
            x.enter(FIFTEEN, 0, 1);
            x.enter(FIFTEEN.substring(0, alike) + "z" + FIFTEEN.substring(alike + 1), 0, 1);
            Check.due("two words of 15 letters, " + alike + " alike", alike, x.common(0));
            if (alike > 0) {
                Counted y = new Counted();
                y.enter(FIFTEEN.substring(0, alike), 0, 1);
                y.enter(FIFTEEN, 0, 1);
                Check.due("a beginning and the word", alike, y.common(0));
                Counted z = new Counted();
                z.enter(FIFTEEN, 0, 1);
                z.enter(FIFTEEN.substring(0, alike), 0, 1);
                Check.due("a word and its beginning", alike, z.common(0));
            }
        }
        Counted x = new Counted();
        x.enter("abcd", 0, 1);
        x.enter("abc", 0, 1);
        x.enter("abd", 0, 1);
        Check.due("three words", 2, x.common(0));
        x.enter("b", 1, 1);
        Check.due("a word of another list", 2, x.common(0));
        x.enter("b", 0, 1);
        Check.due("a word with another first letter", 0, x.common(0));
    }

    private static void commonPassesBarredWords() {
        Counted x = new Counted();
        x.enter("z", 0, 1);
        x.enter("abc", 0, 1);
        x.enter("abd", 0, 1);
        x.enter("y", 0, 1);
        Check.due("none alike", 0, x.common(0));
        x.row("?").bar(true);
        Check.due("the first one and the last one barred", 2, x.common(0));
        x.row("abd").bar(true);
        Check.due("one is left", 3, x.common(0));
        x.row("abc").bar(true);
        Check.due("all barred", 0, x.common(0));
    }
}
