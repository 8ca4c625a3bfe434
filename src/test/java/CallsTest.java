/** An object is used for at most 512 calls: up to the 512th each answers as due, whichever calls they are. */
public final class CallsTest {
    private static final int LAST = Counted.CALL_LIMIT;
    private static final int[] ARGUMENTS = {
        Integer.MIN_VALUE, -1, 0, 1, 3, 4, 14, 15, 16, 26, 63, 96, 97, 122, 123, 249, 250, 1000, Integer.MAX_VALUE
    };

    private interface Question {
        int of(Counted x);
    }

    public static void main(String[] args) {
        signs();
        clears();
        folds();
        entersOfOneWord();
        refusedCalls();
        throwingCalls();
        bars();
        merges();
        seeks();
        questions();
        asManyWordsAsThereMayBe();
        laterCallsThrowNothingOfTheMachine();
        Check.end();
    }

    private static void dueAll512(String what, Counted x) {
        Check.due(what + ": calls", LAST, x.calls());
    }

    private static void signs() {
        Counted x = new Counted();
        for (int call = 1; call <= LAST; call++) {
            Check.due("sign, call " + call, call <= 15, x.sign('a'));
        }
        dueAll512("signs", x);
    }

    private static void clears() {
        Counted x = new Counted();
        while (x.calls() < LAST) {
            Check.due("sign, call " + x.calls(), true, x.sign('a'));
            x.clear();
        }
        dueAll512("clears", x);
    }

    private static void folds() {
        Counted x = new Counted();
        x.sign('a');
        while (x.calls() < LAST - 2) {
            x.fold('a', 'a' + x.calls() % 26);
        }
        Check.due("call 511, after 509 folds", 0, x.enter(0, 1));
        Check.due("call 512, its letter", 'a' + 509 % 26, x.letter(0, 0));
        dueAll512("folds", x);
    }

    private static void entersOfOneWord() {
        Counted x = new Counted();
        x.sign('a');
        for (int score = 0; x.calls() < LAST - 1; score++) {
            Check.due("enter, call " + x.calls(), 0, x.enter(score % 4, score));
        }
        Check.due("call 512, its score", 509, x.tell(0, 0));
        dueAll512("enters", x);
    }

    private static void refusedCalls() {
        Counted x = new Counted();
        while (x.calls() < LAST - 2) {
            Check.due("enter an empty row, call " + x.calls(), -1, x.enter(0, 1));
        }
        Check.due("call 511, a sign", true, x.sign('a'));
        Check.due("call 512, the first word", 0, x.enter(0, 1));
        dueAll512("refused calls", x);
    }

    private static void throwingCalls() {
        Counted x = new Counted();
        x.sign('a');
        while (x.calls() < LAST - 1) {
            Check.dueThrow("enter into no list, call " + x.calls(), () -> x.enter(4, 1));
        }
        Check.due("call 512, the first word", 0, x.enter(0, 1));
        dueAll512("throwing calls", x);
    }

    private static void bars() {
        Counted x = new Counted();
        x.sign('a');
        x.enter(0, 1);
        while (x.calls() < LAST) {
            Check.due("bar, call " + x.calls(), 1, x.bar(x.calls() % 2 == 0));
        }
        dueAll512("bars", x);
    }

    private static void merges() {
        Counted x = new Counted();
        x.sign('a');
        x.enter(0, 1);
        int list = 0;
        while (x.calls() < LAST) {
            int next = (list + 1) % 4;
            Check.due("a copy, call " + x.calls(), 1, x.merge(0, next, list, list));
            Check.due("a list without itself, call " + x.calls(), 0, x.merge(2, list, list, list));
            list = next;
        }
        dueAll512("merges", x);
    }

    private static void seeks() {
        Counted x = new Counted();
        x.enter("b", 0, 1);
        x.enter("a", 0, 1);
        x.row("?");
        while (x.calls() < LAST - 1) {
            Check.due("seek, call " + x.calls(), 2, x.seek(0));
        }
        Check.due("call 512, the last candidate", 0, x.candidate(1));
        dueAll512("seeks", x);
    }

    private static void questions() {
        due512("begins", 1, x -> x.begins(0));
        due512("ends", 1, x -> x.ends(0));
        due512("mixed", 1, x -> x.mixed(0));
        due512("many", 1, x -> x.many(0, 2));
        due512("letters", 2, x -> x.letters(0, 'a'));
        due512("common", 2, x -> x.common(0));
        due512("letter", 'a', x -> x.letter(0, 1));
        due512("tell", 7, x -> x.tell(0, 0));
        due512("at", 1, x -> x.at(0, 'a'));
        due512("candidate", 0, x -> x.candidate(0));
    }

    private static void due512(String what, int want, Question question) {
        Counted x = new Counted();
        x.enter("aa", 0, 7);
        x.seek(0);
        while (x.calls() < LAST) {
            Check.due(what + ", call " + x.calls(), want, question.of(x));
        }
        dueAll512(what, x);
    }

    private static void asManyWordsAsThereMayBe() {
        Counted x = FullObject.of(250, 3);
        Check.due("250 words take", 500, x.calls());
        Check.due("the row's word again", 249, x.enter(0, 1000));
        x.fold('a', FullObject.letterOf(250));
        while (x.calls() < LAST - 1) {
            Check.due("the 251st word, call " + x.calls(), -1, x.enter(0, 1));
        }
        Check.due("call 512, the words of list 3", 250, x.merge(0, 0, 3, 3));
        dueAll512("250 words", x);
    }

    /** Their answers are free, but no call may ever throw by itself. */
    private static void laterCallsThrowNothingOfTheMachine() {
        WordLists x = new WordLists();
        for (int signs = 1; signs <= 16; signs++) {
            x.sign('a');
            for (int u = 'a'; u <= 'z'; u++) {
                x.fold('a', u);
                x.enter(0, 1);
            }
        }
        for (String row : new String[] {"", "?", "a?", "??????????", "aaaaaaaaaaaaaaa", "???????????????"}) {
            x.clear();
            for (char u : row.toCharArray()) {
                x.sign(u);
            }
            for (int p : ARGUMENTS) {
                for (int q : ARGUMENTS) {
                    dueNothingOfTheMachine(x, p, q);
                }
            }
        }
    }

    private static void dueNothingOfTheMachine(WordLists x, int p, int q) {
        Check.Call[] calls = {
            () -> x.sign(p), () -> x.fold(p, q), () -> x.enter(p, q), () -> x.bar(p < q), () -> x.merge(p, q, 0, 1),
            () -> x.merge(0, p, q, 1), () -> x.merge(1, 2, p, q), () -> x.seek(p), () -> x.candidate(p),
            () -> x.at(p, q), () -> x.begins(p), () -> x.ends(p), () -> x.mixed(p), () -> x.many(p, q),
            () -> x.letters(p, q), () -> x.letter(p, q), () -> x.tell(p, q), () -> x.common(p)
        };
        for (int i = 0; i < calls.length; i++) {
            try {
                calls[i].run();
            } catch (ArrayIndexOutOfBoundsException e) {
                if (e.getMessage() != null && e.getMessage().contains("out of bounds")) {
                    Check.report("later call " + i + " of " + p + ", " + q + ": thrown by the machine: " + e.getMessage());
                }
            } catch (RuntimeException e) {
                Check.report("later call " + i + " of " + p + ", " + q + ": " + e);
            }
        }
    }
}
