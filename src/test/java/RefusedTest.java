import java.util.function.ToIntFunction;

/**
 * Every call that is refused or throws, in objects of several states: what it answers, and that it
 * changed nothing. Arguments lie just outside their bounds, far outside, and at the ends of int.
 */
public final class RefusedTest {
    private static final int LEAST = Integer.MIN_VALUE;
    private static final int GREATEST = Integer.MAX_VALUE;

    // 319 and 353 have the low byte of a blank and of an a, as -193 and -159 have.
    private static final int[] NO_SIGNS = {
        LEAST, LEAST + 97, -193, -159, -97, -63, -1, 0, 1, 62, 64, 65, 90, 96, 123, 319, 353, 65633, GREATEST
    };
    private static final int[] NO_LETTERS = {
        LEAST, LEAST + 97, -159, -97, -1, 0, 1, 25, 26, 63, 65, 90, 96, 123, 353, 65633, GREATEST
    };
    // 32 to 36 are lists again for a shift that looks at five bits only.
    private static final int[] NO_LISTS = {LEAST, LEAST + 1, -29, -4, -1, 4, 5, 32, 35, 36, 256, GREATEST};
    private static final int[] NO_SCORES = {LEAST, LEAST + 1, -1000, -1, 1001, 1002, GREATEST};
    private static final int[] NO_HOWS = {LEAST, -2, -1, 3, 4, 256, GREATEST};
    private static final int[] NO_LENGTHS = {LEAST, -15, -1, 0, 16, 17, 256, GREATEST};
    private static final int[] NO_PLACES = {LEAST, LEAST + 1, -15, -1, 15, 16, GREATEST - 1, GREATEST};
    private static final int[] NO_WHATS = {LEAST, -2, -1, 4, 5, 256, GREATEST};

    /** An object in some state, of which the test knows how many words and candidates it has. */
    private static final class State {
        final String name;
        final Look.Calls setup;
        final int words;
        final int candidates;

        State(String name, Look.Calls setup, int words, int candidates) {
            this.name = name;
            this.setup = setup;
            this.words = words;
            this.candidates = candidates;
        }

        void due(String call, int want, ToIntFunction<Counted> run) {
            String what = name + ": " + call;
            Look.dueNothingChanged(what, setup, x -> Check.due(what, want, run.applyAsInt(x)));
        }

        void dueThrow(String call, Look.Calls run) {
            String what = name + ": " + call;
            Look.dueNothingChanged(what, setup, x -> Check.dueThrow(what, () -> run.on(x)));
        }
    }

    public static void main(String[] args) {
        State isNew = new State("a new object", x -> { }, 0, 0);
        State blanks = withRow("?a?");
        State full = withRow("abcabcabcabcabz");
        State fullOfBlanks = withRow("???????????????");
        State[] all = {isNew, withRow(""), withRow("pq"), withRow("bab"), blanks, full, fullOfBlanks};
        for (State state : all) {
            everywhere(state);
        }
        enterRefusesTheRow(isNew);
        enterRefusesTheRow(withRow(""));
        enterRefusesTheRow(withRow("?"));
        enterRefusesTheRow(blanks);
        enterRefusesTheRow(withRow("?ab"));
        enterRefusesTheRow(withRow("ba?"));
        enterRefusesTheRow(withRow("abcabcabcabcab?"));
        enterRefusesTheRow(fullOfBlanks);
        signRefusesThe16th(full);
        signRefusesThe16th(fullOfBlanks);
        signRefusesThe16th(withRow("?bcabcabcabcab?"));
        Check.end();
    }

    /** Six words, three of them candidates, one barred, one of no list; c is folded to d, and d to a. */
    private static State withRow(String row) {
        return new State("the row " + row, x -> {
            x.enter("aab", 0, 5);
            x.enter("bab", 0, 1000);
            x.enter(3, 0);
            x.enter("cab", 0, 5);
            x.enter("ba", 1, 7);
            x.enter("aaa", 0, 9);
            x.enter("z", 2, 1);
            x.merge(2, 2, 2, 2);
            x.row("aaa");
            x.bar(true);
            x.row("?a?");
            x.seek(0);
            x.fold('c', 'd');
            x.fold('d', 'a');
            x.row(row);
        }, 6, 3);
    }

    private static void everywhere(State state) {
        noSigns(state);
        noLetters(state);
        noLists(state);
        mergeOfNoLists(state);
        noScores(state);
        noHows(state);
        noCandidates(state);
        noPlaces(state);
        noWords(state);
        noWhats(state);
        questions(state);
    }

    private static void noSigns(State state) {
        for (int u : NO_SIGNS) {
            state.due("sign " + u, 0, x -> x.sign(u) ? 1 : 0);
        }
    }

    private static void noLetters(State state) {
        for (int u : NO_LETTERS) {
            state.dueThrow("fold from " + u, x -> x.fold(u, 'b'));
            state.dueThrow("fold to " + u, x -> x.fold('b', u));
            state.dueThrow("fold from and to " + u, x -> x.fold(u, u));
            state.dueThrow("at 0 the letter " + u, x -> x.at(0, u));
            state.dueThrow("at -1 the letter " + u, x -> x.at(-1, u));
            state.dueThrow("at 15 the letter " + u, x -> x.at(15, u));
            state.dueThrow("letters " + u + " in list 0", x -> x.letters(0, u));
            state.dueThrow("letters " + u + " in list 3", x -> x.letters(3, u));
        }
    }

    private static void noLists(State state) {
        for (int list : NO_LISTS) {
            state.dueThrow("enter into list " + list, x -> x.enter(list, 1000));
            state.dueThrow("seek in list " + list, x -> x.seek(list));
            state.dueThrow("begins in list " + list, x -> x.begins(list));
            state.dueThrow("ends in list " + list, x -> x.ends(list));
            state.dueThrow("mixed in list " + list, x -> x.mixed(list));
            state.dueThrow("many in list " + list, x -> x.many(list, 3));
            state.dueThrow("letters in list " + list, x -> x.letters(list, 'a'));
            state.dueThrow("letters, none, in list " + list, x -> x.letters(list, 96));
            state.dueThrow("common in list " + list, x -> x.common(list));
        }
    }

    private static void mergeOfNoLists(State state) {
        for (int list : NO_LISTS) {
            for (int each = 0; each < 3; each++) {
                int how = each;
                state.dueThrow("merge " + how + " to list " + list, x -> x.merge(how, list, 0, 1));
                state.dueThrow("merge " + how + " of list " + list, x -> x.merge(how, 2, list, 0));
                state.dueThrow("merge " + how + " with list " + list, x -> x.merge(how, 2, 0, list));
                state.dueThrow("merge " + how + " of lists " + list, x -> x.merge(how, list, list, list));
            }
        }
    }

    private static void noScores(State state) {
        for (int score : NO_SCORES) {
            for (int each = 0; each < 4; each++) {
                int list = each;
                state.due("enter into " + list + " with score " + score, -1, x -> x.enter(list, score));
            }
            state.dueThrow("enter into 4 with score " + score, x -> x.enter(4, score));
        }
    }

    private static void noHows(State state) {
        for (int how : NO_HOWS) {
            state.due("merge " + how, -1, x -> x.merge(how, 2, 0, 1));
            state.due("merge " + how + " of the same lists", -1, x -> x.merge(how, 0, 0, 0));
            state.dueThrow("merge " + how + " to no list", x -> x.merge(how, 4, 0, 1));
            state.dueThrow("merge " + how + " of no list", x -> x.merge(how, 2, -1, 1));
            state.dueThrow("merge " + how + " with no list", x -> x.merge(how, 2, 0, 4));
        }
    }

    private static void noCandidates(State state) {
        int n = state.candidates;
        int[] none = {LEAST, LEAST + 1, -2, -1, n, n + 1, 249, 250, 251, 256, GREATEST};
        for (int k : none) {
            state.dueThrow("candidate " + k, x -> x.candidate(k));
        }
    }

    private static void noPlaces(State state) {
        for (int place : NO_PLACES) {
            state.due("at " + place + " an a", 0, x -> x.at(place, 'a'));
            for (int each = 0; each < state.words; each++) {
                int word = each;
                state.due("letter " + place + " of word " + word, -1, x -> x.letter(word, place));
            }
        }
        for (int each = 0; each < 4; each++) {
            int list = each;
            for (int length : NO_LENGTHS) {
                state.due("many of " + length + " in list " + list, -1, x -> x.many(list, length));
                state.dueThrow("many of " + length + " in no list", x -> x.many(list + 4, length));
            }
        }
    }

    private static void noWords(State state) {
        int n = state.words;
        int[] none = {LEAST, LEAST + 1, -2, -1, n, n + 1, 249, 250, 251, 256, GREATEST};
        for (int word : none) {
            state.dueThrow("letter 0 of word " + word, x -> x.letter(word, 0));
            state.dueThrow("letter -1 of word " + word, x -> x.letter(word, -1));
            state.dueThrow("letter 15 of word " + word, x -> x.letter(word, 15));
            for (int each = -1; each < 5; each++) {
                int what = each;
                state.dueThrow("tell " + what + " of word " + word, x -> x.tell(word, what));
            }
        }
    }

    private static void noWhats(State state) {
        for (int what : NO_WHATS) {
            for (int each = 0; each < state.words; each++) {
                int word = each;
                state.due("tell " + what + " of word " + word, -1, x -> x.tell(word, what));
            }
        }
    }

    /** Calls that only ask, with all that is right: no answer is looked at here but by what it may change. */
    private static void questions(State state) {
        for (int each = 0; each < 4; each++) {
            int list = each;
            String name = state.name + ": questions to list " + list;
            Look.dueNothingChanged(name, state.setup, x -> {
                x.begins(list);
                x.ends(list);
                x.mixed(list);
                x.common(list);
                x.many(list, 1);
                x.letters(list, 'z');
                x.at(14, 'z');
            });
        }
        Look.dueNothingChanged(state.name + ": questions to words and candidates", state.setup, x -> {
            for (int word = 0; word < state.words; word++) {
                x.letter(word, 0);
                x.tell(word, 0);
            }
            for (int k = 0; k < state.candidates; k++) {
                x.candidate(k);
            }
        });
    }

    private static void enterRefusesTheRow(State state) {
        for (int each = 0; each < 4; each++) {
            int list = each;
            for (int score : new int[] {0, 1, 1000, -1, 1001}) {
                state.due("enter into " + list + " with score " + score, -1, x -> x.enter(list, score));
            }
        }
    }

    private static void signRefusesThe16th(State state) {
        for (int u : new int[] {'?', 'a', 'b', 'y', 'z', 96, 123, LEAST, GREATEST}) {
            state.due("the 16th sign " + u, 0, x -> x.sign(u) ? 1 : 0);
        }
        state.due("the 16th sign and 20 more", 0, x -> {
            int taken = 0;
            for (int i = 0; i < 21; i++) {
                taken += x.sign('a') ? 1 : 0;
            }
            return taken;
        });
    }
}
