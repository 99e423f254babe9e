/** The edges that the document names in promises 1 to 4: a test for each sentence. */
public final class TextEdgeTest {
    public static void main(String[] args) {
        Check.edge("promise 1", "Creates a choir of 1 singer without a song", TextEdgeTest::newObject);
        Check.edge("promise 1", "Creates a choir of 1 singer without a song", TextEdgeTest::twoNewObjects);
        Check.edge("promise 2", "c: character code, 0 to 255", TextEdgeTest::codes);
        Check.edge("promise 2", "Returns the new length of the text", TextEdgeTest::lengths);
        Check.edge("promise 2", "Throws IllegalArgumentException if c is out of range", TextEdgeTest::codesOutOfRange);
        Check.edge("promise 2", "Throws IllegalStateException if the text already has 40 characters",
            TextEdgeTest::fullText);
        Check.edge("promise 3", "Empties the text buffer", TextEdgeTest::emptied);
        Check.edge("promise 3", "Returns the previous length of the text", TextEdgeTest::previousLengths);
        Check.edge("promise 4", "Returns the error position of the text", TextEdgeTest::errorPositions);
        Check.edge("promise 4", "NONE if it is a pattern", TextEdgeTest::noErrorInPatterns);
        Check.end();
    }

    private static void newObject() {
        SongChoir x = new SongChoir();
        int[] numbers = {0, 0, 1, 0, 0, 0, SongChoir.NONE, 0, 0};
        for (int what = 0; what < numbers.length; what++) {
            Check.due("about(" + what + ")", x.about(what), numbers[what]);
        }
        Check.due("the text", x.clearText(), 0);
        Check.dueThrow("place 0", () -> x.note(0, 0), Check.BOUNDS);
        Check.dueThrow("verse 0", () -> x.verse(0, 0), Check.BOUNDS);
        Check.due("the singer keeps nothing", x.singer(0, 1), 0);
        Check.dueThrow("a state", x::undo, Check.STATE);
        Check.dueThrow("slot 0", () -> x.restore(0), Check.STATE);
        Check.dueThrow("slot 1", () -> x.restore(1), Check.STATE);
    }

    private static void twoNewObjects() {
        SongChoir one = Check.withVerses("ab");
        one.setSingers(3);
        one.save(0);
        SongChoir other = new SongChoir();
        Check.same("beside a busy one", Check.whole(other), Check.whole(new SongChoir()));
        Check.due("and the busy one has its song", one.about(0), 2);
    }

    private static void codes() {
        SongChoir x = new SongChoir();
        Check.due("the lowest code", x.append(0), 1);
        Check.due("the highest code", x.append(255), 2);
        Check.due("none of them is a letter", x.errorPosition(), 0);
        for (int c = 'a'; c <= 'h'; c++) {
            x.clearText();
            x.append(c);
            Check.due("the letter " + c, x.errorPosition(), -1);
        }
    }

    private static void lengths() {
        SongChoir x = new SongChoir();
        for (int length = 1; length <= 40; length++) {
            Check.due("append", x.append(length), length);
        }
        x.clearText();
        Check.due("append behind clearText()", x.append('a'), 1);
    }

    private static void codesOutOfRange() {
        SongChoir x = new SongChoir();
        for (int c : new int[] {Integer.MIN_VALUE, -256, -1, 256, 256 + 'a', 65536 + 'a', Integer.MAX_VALUE}) {
            Check.dueThrow("append(" + c + ")", () -> x.append(c), Check.ARGUMENT);
        }
        Check.due("none is there", x.clearText(), 0);
    }

    private static void fullText() {
        SongChoir x = new SongChoir();
        for (int length = 1; length <= 40; length++) {
            x.append('a');
        }
        Check.dueThrow("a letter", () -> x.append('a'), Check.STATE);
        Check.dueThrow("the lowest code", () -> x.append(0), Check.STATE);
        Check.dueThrow("the highest code", () -> x.append(255), Check.STATE);
        Check.due("none is there", x.errorPosition(), -1);
        Check.due("so many are", x.clearText(), 40);
    }

    private static void emptied() {
        SongChoir x = Check.text(new SongChoir(), "a".repeat(40));
        x.clearText();
        Check.dueThrow("no pattern is left", x::count, Check.STATE);
        Check.due("an empty text", x.errorPosition(), 0);
        for (int length = 1; length <= 40; length++) {
            Check.due("room for 40", x.append('b'), length);
        }
        Check.due("none of the old ones", x.errorPosition(), -1);
    }

    private static void previousLengths() {
        SongChoir x = new SongChoir();
        Check.due("of a new object", x.clearText(), 0);
        x.append('a');
        Check.due("of one character", x.clearText(), 1);
        Check.due("of an emptied text", x.clearText(), 0);
        Check.due("of a full text", Check.text(x, "?".repeat(40)).clearText(), 40);
        Check.due("and behind it", x.clearText(), 0);
    }

    private static void errorPositions() {
        SongChoir x = new SongChoir();
        Check.due("of an empty text", x.errorPosition(), 0);
        Check.due("just below a", Check.text(x, "a`").errorPosition(), 1);
        Check.due("just above h", Check.text(x, "hi").errorPosition(), 1);
        Check.due("the lowest code", Check.text(x, "aa\u0000").errorPosition(), 2);
        Check.due("the highest code", Check.text(x, "aa\u00ff").errorPosition(), 2);
        Check.due("a capital letter", Check.text(x, "A").errorPosition(), 0);
        Check.due("the first of 40", Check.text(x, "?".repeat(40)).errorPosition(), 0);
        Check.due("the last of 40", Check.text(x, "a".repeat(39) + "?").errorPosition(), 39);
    }

    private static void noErrorInPatterns() {
        SongChoir x = new SongChoir();
        Check.due("one letter", Check.text(x, "h").errorPosition(), -1);
        Check.due("13 letters", Check.text(x, "a".repeat(13)).errorPosition(), -1);
        Check.due("40 letters", Check.text(x, "abcdefgh".repeat(5)).errorPosition(), -1);
    }
}
