/** Objects with 250 words, in the fewest calls: 500, so that 12 are left for what a test asks. */
final class FullObject {
    private FullObject() {
    }

    /**
     * One call for each word to make the row another one: a row of nothing but a stands for 26 words, as
     * a is folded, and then it gets one a more, under the folding that is there.
     */
    static Counted of(int words, int list) {
        Counted x = new Counted();
        for (int word = 0; word < words; word++) {
            if (word % 26 == 0) {
                x.sign('a');
            } else {
                x.fold('a', letterOf(word));
            }
            Check.due("enter word " + word, word, x.enter(list, 1));
        }
        return x;
    }

    /** Word number w is this letter, w / 26 + 1 times. */
    static int letterOf(int word) {
        return 'a' + (word - word / 26) % 26;
    }
}
