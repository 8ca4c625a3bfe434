import java.util.ArrayList;
import java.util.List;
import java.util.function.IntSupplier;

/**
 * Whether a call changed nothing: two objects are made by the same calls, one of them gets the call,
 * and then both are asked for all that they hold.
 */
final class Look {
    interface Calls {
        void on(Counted x);
    }

    private static final int MORE_THAN_ANY_SETUP = 20;

    private final Counted x;
    private final List<String> seen = new ArrayList<>();

    private Look(Counted x) {
        this.x = x;
    }

    static void dueNothingChanged(String what, Calls setup, Calls call) {
        Counted changed = new Counted();
        setup.on(changed);
        call.on(changed);
        Counted untouched = new Counted();
        setup.on(untouched);
        List<String> got = new Look(changed).all();
        List<String> want = new Look(untouched).all();
        for (int i = 0; i < want.size() && i < got.size(); i++) {
            if (!want.get(i).equals(got.get(i))) {
                Check.report(what + ": then " + got.get(i) + ", without it " + want.get(i));
                return;
            }
        }
        Check.due(what + ": how much there is to be seen", want.size(), got.size());
    }

    /** The order counts: what changes the object comes behind what it would hide. */
    private List<String> all() {
        candidates();
        lists();
        words();
        row();
        folding();
        return seen;
    }

    private boolean see(String call, IntSupplier answer) {
        try {
            seen.add(call + " answered " + answer.getAsInt());
            return true;
        } catch (ArrayIndexOutOfBoundsException e) {
            seen.add(call + " threw");
            return false;
        }
    }

    private void candidates() {
        for (int k = 0; k < MORE_THAN_ANY_SETUP; k++) {
            int number = k;
            if (!see("candidate " + k, () -> x.candidate(number))) {
                break;
            }
        }
        for (int place = 0; place < 4; place++) {
            int p = place;
            see("at " + place + " an a", () -> x.at(p, 'a'));
            see("at " + place + " a b", () -> x.at(p, 'b'));
        }
    }

    private void lists() {
        for (int each = 0; each < 4; each++) {
            int list = each;
            see("begins in " + list, () -> x.begins(list));
            see("ends in " + list, () -> x.ends(list));
            see("mixed in " + list, () -> x.mixed(list));
            see("common in " + list, () -> x.common(list));
            see("many in " + list, () -> x.many(list, 3));
            see("letters in " + list, () -> x.letters(list, 'a'));
        }
    }

    private void words() {
        for (int number = 0; number < MORE_THAN_ANY_SETUP; number++) {
            int word = number;
            if (!see("score of " + word, () -> x.tell(word, 0))) {
                break;
            }
            see("lists of " + word, () -> x.tell(word, 1));
            see("barred " + word, () -> x.tell(word, 2));
            see("letters of " + word, () -> x.tell(word, 3));
            lettersOf(word);
        }
    }

    private void lettersOf(int word) {
        int length = x.tell(word, 3);
        for (int i = 0; i <= length; i++) {
            int place = i;
            see("letter " + i + " of " + word, () -> x.letter(word, place));
        }
    }

    /** With its blanks by what fits it, without any by the word that it is, and by how many signs it still takes. */
    private void row() {
        for (int each = 0; each < 4; each++) {
            int list = each;
            see("seek in " + list, () -> x.seek(list));
            see("its first candidate", () -> x.candidate(0));
        }
        seeEntered("the row");
        see("bar", () -> x.bar(true));
        int room = 0;
        while (room < MORE_THAN_ANY_SETUP && x.sign('?')) {
            room++;
        }
        seen.add("the row took " + room + " signs more");
    }

    private void folding() {
        x.row("abcdefghijklm");
        seeEntered("a to m");
        x.row("nopqrstuvwxyz");
        seeEntered("n to z");
    }

    private void seeEntered(String what) {
        int word = x.enter(0, 0);
        seen.add("enter " + what + " answered " + word);
        if (word >= 0) {
            lettersOf(word);
        }
    }
}
