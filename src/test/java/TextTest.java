/** Promises 1 to 4: a new object and its text. */
public final class TextTest {
    public static void main(String[] args) {
        newObject();
        appending();
        clearing();
        errors();
        Check.end();
    }

    private static void newObject() {
        SongChoir x = new SongChoir();
        int[] numbers = {0, 0, 1, 0, 0, 0, SongChoir.NONE, 0, 0};
        for (int what = 0; what < numbers.length; what++) {
            Check.due("promise 1: about(" + what + ")", x.about(what), numbers[what]);
        }
        Check.due("promise 1: NONE", SongChoir.NONE, -1);
        Check.due("promise 1: the text is empty", x.clearText(), 0);
        Check.dueThrow("promise 1: nothing is remembered", x::undo, Check.STATE);
        Check.dueThrow("promise 1: nothing is saved in slot 0", () -> x.restore(0), Check.STATE);
        Check.dueThrow("promise 1: nothing is saved in slot 1", () -> x.restore(1), Check.STATE);
        Check.due("promise 1: suffix(0)", x.suffix(0), -1);
        for (int what = 0; what < 3; what++) {
            Check.due("promise 1: the one singer", x.singer(0, what), 0);
        }
        Check.dueThrow("promise 1: no second singer", () -> x.singer(1, 0), Check.BOUNDS);
    }

    private static void appending() {
        SongChoir x = new SongChoir();
        Check.due("promise 2: the lowest code", x.append(0), 1);
        Check.due("promise 2: the highest code", x.append(255), 2);
        Check.dueThrow("promise 2: append(-1)", () -> x.append(-1), Check.ARGUMENT);
        Check.dueThrow("promise 2: append(256)", () -> x.append(256), Check.ARGUMENT);
        Check.dueThrow("promise 2: append(least)", () -> x.append(Integer.MIN_VALUE), Check.ARGUMENT);
        Check.dueThrow("promise 2: append(greatest)", () -> x.append(Integer.MAX_VALUE), Check.ARGUMENT);
        for (int length = 3; length <= 40; length++) {
            Check.due("promise 2: append", x.append('a'), length);
        }
        Check.dueThrow("promise 2: a full text", () -> x.append('a'), Check.STATE);
        Check.dueThrow("promise 2: a full text and no code", () -> x.append(256), Check.ARGUMENT);
        Check.due("promise 2: a refused character is not there", x.clearText(), 40);
    }

    private static void clearing() {
        SongChoir x = Check.text(new SongChoir(), "abc");
        Check.due("promise 3: clearText", x.clearText(), 3);
        Check.due("promise 3: clearText once more", x.clearText(), 0);
        Check.due("promise 3: the text begins anew", x.append('h'), 1);
        Check.due("promise 3: and knows nothing of the old one", x.errorPosition(), -1);
    }

    private static void errors() {
        SongChoir x = new SongChoir();
        Check.due("promise 4: the empty text", x.errorPosition(), 0);
        Check.due("promise 4: a", Check.text(x, "a").errorPosition(), -1);
        Check.due("promise 4: h", Check.text(x, "h").errorPosition(), -1);
        Check.due("promise 4: i is behind the letters", Check.text(x, "i").errorPosition(), 0);
        Check.due("promise 4: ` is ahead of them", Check.text(x, "`").errorPosition(), 0);
        Check.due("promise 4: A is none of them", Check.text(x, "abA").errorPosition(), 2);
        Check.due("promise 4: the first of two", Check.text(x, "ab?c?").errorPosition(), 2);
        String forty = "abcdefgh".repeat(5);
        Check.due("promise 4: 40 letters", Check.text(x, forty).errorPosition(), -1);
        Check.due("promise 4: the last of 40", Check.text(x, forty.substring(1) + "z").errorPosition(), 39);
    }
}
