import java.util.ArrayList;
import java.util.Arrays;
import java.util.Comparator;
import java.util.List;
import java.util.regex.Pattern;

/** Long runs of calls, the same every time, on the class and on a plain model of the document. */
public final class ModelTest {
    private static final int RUNS = 3000;
    private static final int RUNS_OF_TWO = 300;
    private static final int CALLS = 512;
    private static final int THROWS = Integer.MIN_VALUE;

    private static final class Word {
        final String text;
        int score;
        final boolean[] lists = new boolean[4];
        boolean barred;

        Word(String text) {
            this.text = text;
        }
    }

    /** The document's words over the Java library; an answer THROWS stands for the exception. */
    private static final class Model {
        private String row = "";
        private final char[] folding = "abcdefghijklmnopqrstuvwxyz".toCharArray();
        private final List<Word> words = new ArrayList<>();
        private List<Word> candidates = new ArrayList<>();

        private String folded() {
            StringBuilder text = new StringBuilder();
            for (char u : row.toCharArray()) {
                text.append(u == '?' ? '.' : folding[u - 'a']);
            }
            return text.toString();
        }

        private List<Word> free(int list, String regex) {
            List<Word> found = new ArrayList<>();
            Pattern pattern = Pattern.compile(regex);
            for (Word word : words) {
                if (word.lists[list] && !word.barred && pattern.matcher(word.text).matches()) {
                    found.add(word);
                }
            }
            return found;
        }

        private static boolean noLetter(int u) {
            return u < 'a' || u > 'z';
        }

        private static boolean noList(int list) {
            return list < 0 || list > 3;
        }

        int answer(int[] c) {
            switch (c[0]) {
                case 0: return sign(c[1]);
                case 1: row = ""; return 0;
                case 2: return fold(c[1], c[2]);
                case 3: return noList(c[1]) ? THROWS : enter(c[1], c[2]);
                case 4: return bar(c[1] % 2 == 0);
                case 5: return noList(c[2]) || noList(c[3]) || noList(c[4]) ? THROWS : merge(c[1], c[2], c[3], c[4]);
                case 6: return noList(c[1]) ? THROWS : seek(c[1]);
                case 7: return c[1] < 0 || c[1] >= candidates.size() ? THROWS : words.indexOf(candidates.get(c[1]));
                case 8: return noLetter(c[2]) ? THROWS : at(c[1], (char) c[2]);
                case 9: return noList(c[1]) ? THROWS : free(c[1], folded() + ".*").size();
                case 10: return noList(c[1]) ? THROWS : free(c[1], ".*" + folded()).size();
                case 11: return noList(c[1]) ? THROWS : mixed(c[1]);
                case 12: return noList(c[1]) ? THROWS : many(c[1], c[2]);
                case 13: return noList(c[1]) || noLetter(c[2]) ? THROWS : letters(c[1], c[2]);
                case 14: return c[1] < 0 || c[1] >= words.size() ? THROWS : letter(words.get(c[1]).text, c[2]);
                case 15: return c[1] < 0 || c[1] >= words.size() ? THROWS : tell(words.get(c[1]), c[2]);
                default: return noList(c[1]) ? THROWS : common(c[1]);
            }
        }

        private int sign(int u) {
            if (row.length() == 15 || noLetter(u) && u != '?') {
                return 0;
            }
            row += (char) u;
            return 1;
        }

        private int fold(int from, int to) {
            if (noLetter(from) || noLetter(to)) {
                return THROWS;
            }
            folding[from - 'a'] = (char) to;
            return 0;
        }

        private int enter(int list, int score) {
            if (row.isEmpty() || row.contains("?") || score < 0 || score > 1000) {
                return -1;
            }
            for (Word word : words) {
                if (word.text.equals(folded())) {
                    word.lists[list] = true;
                    word.score = Math.max(word.score, score);
                    return words.indexOf(word);
                }
            }
            if (words.size() == 250) {
                return -1;
            }
            Word word = new Word(folded());
            word.score = score;
            word.lists[list] = true;
            words.add(word);
            return words.size() - 1;
        }

        private int bar(boolean on) {
            int changed = 0;
            for (Word word : words) {
                if (word.text.matches(folded()) && word.barred != on) {
                    word.barred = on;
                    changed++;
                }
            }
            return changed;
        }

        private int merge(int how, int to, int a, int b) {
            if (how < 0 || how > 2) {
                return -1;
            }
            List<Word> first = new ArrayList<>(words);
            first.removeIf(word -> !word.lists[a]);
            List<Word> second = new ArrayList<>(words);
            second.removeIf(word -> !word.lists[b]);
            List<Word> merged = new ArrayList<>(first);
            if (how == 1) {
                merged.retainAll(second);
            } else {
                merged.removeAll(second);
            }
            if (how == 0) {
                merged.addAll(second);
            }
            for (Word word : words) {
                word.lists[to] = merged.contains(word);
            }
            return merged.size();
        }

        private int seek(int list) {
            candidates = free(list, folded());
            candidates.sort(Comparator.comparing((Word word) -> -word.score).thenComparing(word -> word.text));
            return candidates.size();
        }

        private int at(int place, char letter) {
            int count = 0;
            for (Word word : candidates) {
                if (place >= 0 && place < word.text.length() && word.text.charAt(place) == letter) {
                    count++;
                }
            }
            return count;
        }

        private int mixed(int list) {
            int count = 0;
            for (Word word : free(list, ".{" + row.length() + "}")) {
                String left = word.text;
                for (char u : folded().replace(".", "").toCharArray()) {
                    int place = left.indexOf(u);
                    left = place < 0 ? "more than any row has" : left.substring(0, place) + left.substring(place + 1);
                }
                count += left.length() == row.length() - row.replace("?", "").length() ? 1 : 0;
            }
            return count;
        }

        private int many(int list, int letters) {
            if (letters < 1 || letters > 15) {
                return -1;
            }
            return (int) words.stream().filter(word -> word.lists[list] && word.text.length() == letters).count();
        }

        private int letters(int list, int letter) {
            return words.stream().filter(word -> word.lists[list])
                .mapToInt(word -> (int) word.text.chars().filter(u -> u == letter).count()).sum();
        }

        private static int letter(String text, int i) {
            return i < 0 || i >= text.length() ? -1 : text.charAt(i);
        }

        private static int tell(Word word, int what) {
            int bits = 0;
            for (int list = 0; list < 4; list++) {
                bits += word.lists[list] ? 1 << list : 0;
            }
            int[] all = {word.score, bits, word.barred ? 1 : 0, word.text.length()};
            return what < 0 || what > 3 ? -1 : all[what];
        }

        private int common(int list) {
            List<Word> free = free(list, ".*");
            int shared = 0;
            for (int n = 1; n <= 15 && !free.isEmpty(); n++) {
                String first = free.get(0).text;
                if (first.length() >= n) {
                    String beginning = first.substring(0, n);
                    shared = free.stream().allMatch(word -> word.text.startsWith(beginning)) ? n : shared;
                }
            }
            return shared;
        }
    }

    private static int answer(WordLists x, int[] c) {
        try {
            switch (c[0]) {
                case 0: return x.sign(c[1]) ? 1 : 0;
                case 1: x.clear(); return 0;
                case 2: x.fold(c[1], c[2]); return 0;
                case 3: return x.enter(c[1], c[2]);
                case 4: return x.bar(c[1] % 2 == 0);
                case 5: return x.merge(c[1], c[2], c[3], c[4]);
                case 6: return x.seek(c[1]);
                case 7: return x.candidate(c[1]);
                case 8: return x.at(c[1], c[2]);
                case 9: return x.begins(c[1]);
                case 10: return x.ends(c[1]);
                case 11: return x.mixed(c[1]);
                case 12: return x.many(c[1], c[2]);
                case 13: return x.letters(c[1], c[2]);
                case 14: return x.letter(c[1], c[2]);
                case 15: return x.tell(c[1], c[2]);
                default: return x.common(c[1]);
            }
        } catch (ArrayIndexOutOfBoundsException e) {
            if (e.getMessage() != null && e.getMessage().contains("out of bounds")) {
                Check.report("thrown by the machine: " + e.getMessage());
            }
            return THROWS;
        }
    }

    private long state = 20261115;

    private int below(int limit) {
        state = state * 6364136223846793005L + 1442695040888963407L;
        return (int) ((state >>> 33) % limit);
    }

    /** Now and then the least or the greatest int instead of an ordinary argument. */
    private int orAnEndOfInt(int ordinary) {
        int kind = below(150);
        return kind == 0 ? Integer.MIN_VALUE : kind == 1 ? Integer.MAX_VALUE : ordinary;
    }

    private int letter(int alphabet) {
        int kind = below(60);
        return orAnEndOfInt(kind == 0 ? 96 : kind == 1 ? 123 : kind == 2 ? 63 : 'a' + below(alphabet));
    }

    private int list() {
        int kind = below(60);
        return orAnEndOfInt(kind == 0 ? -1 : kind == 1 ? 4 : below(4));
    }

    private int score() {
        int kind = below(30);
        return orAnEndOfInt(kind == 0 ? -1 : kind == 1 ? 1001 : kind == 2 ? 1000 : below(4));
    }

    private int[] call(int alphabet, int blankOdds) {
        int kind = below(60);
        if (kind < 20) {
            return new int[] {0, below(blankOdds) == 0 ? '?' : letter(alphabet)};
        }
        if (kind < 25) {
            return new int[] {1};
        }
        if (kind < 37) {
            return new int[] {3, list(), score()};
        }
        int which = 2 + below(15);
        switch (which) {
            case 2: return new int[] {2, letter(alphabet), letter(alphabet)};
            case 3: return new int[] {3, list(), score()};
            case 4: return new int[] {4, below(2)};
            case 5: return new int[] {5, orAnEndOfInt(below(5) - 1), list(), list(), list()};
            case 7: return new int[] {7, orAnEndOfInt(below(6) - 1)};
            case 8: return new int[] {8, orAnEndOfInt(below(8) - 1), letter(alphabet)};
            case 12: return new int[] {12, list(), orAnEndOfInt(below(18) - 1)};
            case 13: return new int[] {13, list(), letter(alphabet)};
            case 14: return new int[] {14, orAnEndOfInt(below(40) - 1), orAnEndOfInt(below(8) - 1)};
            case 15: return new int[] {15, orAnEndOfInt(below(40) - 1), orAnEndOfInt(below(6) - 1)};
            default: return new int[] {which, list()};
        }
    }

    private void run(int number) {
        WordLists x = new WordLists();
        Model model = new Model();
        int alphabet = 1 + below(number % 2 == 0 ? 3 : 26);
        int blankOdds = 4 + below(20);
        for (int i = 0; i < CALLS; i++) {
            int[] c = call(alphabet, blankOdds);
            Check.due("run " + number + ", call " + i + " " + Arrays.toString(c), model.answer(c), answer(x, c));
        }
    }

    /** By turns, so that anything that the one left behind would show in the other. */
    private void runOfTwoObjects(int number) {
        WordLists[] objects = {new WordLists(), new WordLists()};
        Model[] models = {new Model(), new Model()};
        for (int i = 0; i < CALLS; i++) {
            int which = below(2);
            int[] c = call(3, 6);
            String what = "two objects, run " + number + ", call " + i + " " + Arrays.toString(c);
            Check.due(what, models[which].answer(c), answer(objects[which], c));
        }
    }

    public static void main(String[] args) {
        ModelTest test = new ModelTest();
        for (int number = 0; number < RUNS; number++) {
            test.run(number);
        }
        for (int number = 0; number < RUNS_OF_TWO; number++) {
            test.runOfTwoObjects(number);
        }
        Check.end();
    }
}
