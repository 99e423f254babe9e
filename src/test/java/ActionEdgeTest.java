/** The edges that the document names in promises 15 to 19: a test for each sentence. */
public final class ActionEdgeTest {
    private static final String A12 = "a".repeat(12);
    private static final int[] FAR = {Integer.MIN_VALUE, -1, 48, Integer.MAX_VALUE};

    public static void main(String[] args) {
        promise15();
        promises16And17();
        promises18And19();
        Check.end();
    }

    private static void promise15() {
        String where = "promise 15";
        Check.edge(where, "Sings the text as a new verse", ActionEdgeTest::textAsVerse);
        Check.edge(where, "Keeps the text", ActionEdgeTest::keepsTheText);
        Check.edge(where, "Returns how many notes are handed over", ActionEdgeTest::handedOverBySing);
        Check.edge(where, "Throws IllegalStateException if the text is not a pattern",
            ActionEdgeTest::textIsNoPattern);
        Check.edge(where, "or has more than 12 characters", ActionEdgeTest::moreThan12);
    }

    private static void promises16And17() {
        String where = "promise 16";
        Check.edge(where, "Sings a verse once more, as a new verse", ActionEdgeTest::firstAndLastVerseAgain);
        Check.edge(where, "Sings a verse once more, as a new verse", ActionEdgeTest::verseThatMakesRoomForItself);
        Check.edge(where, "Returns how many notes are handed over", ActionEdgeTest::handedOverByAgain);
        Check.edge(where, "Throws IndexOutOfBoundsException if there is no such verse", ActionEdgeTest::noSuchVerse);
        where = "promise 17";
        Check.edge(where, "Forgets the oldest verse", ActionEdgeTest::oldestVerse);
        Check.edge(where, "Forgets the oldest verse", ActionEdgeTest::onlyVerse);
        Check.edge(where, "Returns how many notes are handed over", ActionEdgeTest::handedOverByForget);
        Check.edge(where, "Throws IllegalStateException if there is no verse", ActionEdgeTest::noVerse);
    }

    private static void promises18And19() {
        String where = "promise 18";
        Check.edge(where, "k: 1 to 8", ActionEdgeTest::singers1To8);
        Check.edge(where, "Returns how many notes are handed over", ActionEdgeTest::handedOverBySetSingers);
        Check.edge(where, "Throws IllegalArgumentException if k is out of range", ActionEdgeTest::singersOutOfRange);
        where = "promise 19";
        Check.edge(where, "Takes back the last action that is remembered", ActionEdgeTest::takesBackTheLastAction);
        Check.edge(where, "Takes back the last action that is remembered", ActionEdgeTest::takesBackForgotten);
        Check.edge(where, "Returns how many states are still remembered", ActionEdgeTest::stillRemembered);
        Check.edge(where, "Throws IllegalStateException if none is remembered", ActionEdgeTest::noneRemembered);
    }

    private static void textAsVerse() {
        SongChoir x = Check.withVerses("h");
        Check.due("a verse of 1 note", x.verse(0, 1), 1);
        Check.sing(x, "abcdefghabcd");
        Check.same("with one of 12 notes", Check.song(x), "habcdefghabcd");
        Check.due("verses", x.about(1), 2);
        Check.due("where the new one begins", x.verse(1, 0), 1);
        Check.due("how long it is", x.verse(1, 1), 12);
    }

    private static void keepsTheText() {
        SongChoir x = Check.text(new SongChoir(), "abcdefghabcd");
        x.sing();
        Check.due("it can be sung once more", x.sing(), 0);
        Check.due("and counted", x.count(), 2);
        Check.due("all of it", x.clearText(), 12);
    }

    private static void handedOverBySing() {
        Check.due("the first verse", Check.sing(new SongChoir(), "a"), 0);
        SongChoir x = Check.fullSong();
        Check.due("with one singer", Check.sing(x, A12), 0);
        SongChoir y = Check.fullSong();
        y.setSingers(8);
        // Each of 36 notes that stay has a rank 12 lower, two singers further ahead.
        Check.due("all notes that stay", Check.sing(y, "h".repeat(12)), 36);
        Check.due("and they are counted", y.about(7), 42 + 36);
    }

    private static void textIsNoPattern() {
        SongChoir x = new SongChoir();
        Check.dueThrow("an empty text", x::sing, Check.STATE);
        for (String text : new String[] {"?", "`", "i", "A", "abcdefghabc?", "?bcdefghabcd", "a\u0000", "a\u00ff"}) {
            Check.dueThrow(text.length() + " characters", Check.text(x, text)::sing, Check.STATE);
        }
        Check.due("no verse", x.about(1), 0);
    }

    private static void moreThan12() {
        SongChoir x = new SongChoir();
        Check.dueThrow("13 letters", Check.text(x, "a".repeat(13))::sing, Check.STATE);
        Check.dueThrow("40 letters", Check.text(x, "a".repeat(40))::sing, Check.STATE);
        Check.due("no verse", x.about(1), 0);
        Check.due("12 letters", Check.text(x, A12).sing(), 0);
        Check.due("a verse", x.about(1), 1);
    }

    private static void firstAndLastVerseAgain() {
        SongChoir x = Check.withVerses("ab", "c", "de");
        x.clearText();
        x.again(0);
        Check.same("the first one", Check.song(x), "abcdeab");
        x.again(3);
        Check.same("the last one", Check.song(x), "abcdeabab");
        Check.due("verses", x.about(1), 5);
        Check.due("those that were sung", x.about(8), 5);
        Check.due("the text is still empty", x.clearText(), 0);
    }

    private static void verseThatMakesRoomForItself() {
        SongChoir x = Check.withVerses("abcdefghabcd", A12, A12, A12);
        x.again(0);
        Check.same("the oldest one comes to the end", Check.song(x), "a".repeat(36) + "abcdefghabcd");
        Check.due("its old notes are forgotten", x.about(3), 12);
        Check.due("verses", x.about(1), 4);
        SongChoir y = Check.withVerses("h", A12, A12, A12, "abcdefghabc");
        y.again(4);
        Check.same("the last one, behind which two are forgotten", Check.song(y),
            "a".repeat(24) + "abcdefghabcabcdefghabc");
        Check.due("notes that are forgotten", y.about(3), 13);
    }

    private static void handedOverByAgain() {
        Check.due("with one singer", Check.fullSong().again(1), 0);
        SongChoir x = Check.fullSong();
        x.setSingers(8);
        // d once more in place of a: b and c have ranks 12 lower, the old d are behind the new ones.
        Check.due("two thirds of the notes that stay", x.again(3), 24);
        SongChoir y = Check.fullSong();
        y.setSingers(4);
        Check.due("a in place of a", y.again(0), 0);
    }

    private static void noSuchVerse() {
        SongChoir x = Check.withVerses("ab", "c");
        Check.dueThrow("just behind the last one", () -> x.again(2), Check.BOUNDS);
        for (int v : FAR) {
            Check.dueThrow("again(" + v + ")", () -> x.again(v), Check.BOUNDS);
        }
        Check.due("the last one", x.again(1), 0);
        Check.dueThrow("in a new object", () -> new SongChoir().again(0), Check.BOUNDS);
        x.forget();
        x.forget();
        x.forget();
        Check.dueThrow("behind the last verse", () -> x.again(0), Check.BOUNDS);
    }

    private static void oldestVerse() {
        SongChoir x = Check.withVerses("a", "abcdefghabcd", "h");
        x.forget();
        Check.same("the shortest", Check.song(x), "abcdefghabcdh");
        x.forget();
        Check.same("the longest", Check.song(x), "h");
        Check.due("notes that are forgotten", x.about(3), 13);
        Check.due("verses", x.about(1), 1);
    }

    private static void onlyVerse() {
        SongChoir x = Check.withVerses("ab");
        x.setSingers(3);
        Check.due("nobody hands over a note that goes", x.forget(), 0);
        Check.due("verses", x.about(1), 0);
        Check.due("notes", x.about(0), 0);
        Check.due("singers", x.about(2), 3);
        Check.due("the song can be sung anew", Check.sing(x, "c"), 0);
        Check.due("from place 0 on", x.note(0, 0), 'c');
        Check.due("the age goes on", x.about(3), 2);
    }

    private static void handedOverByForget() {
        Check.due("with one singer", Check.fullSong().forget(), 0);
        SongChoir x = Check.fullSong();
        x.setSingers(4);
        // Of 36 notes each singer has 9: the first 9 b go to singer 0, 6 c to 1, 3 d to 2.
        Check.due("with four singers", x.forget(), 9 + 6 + 3);
        // Of 24 notes each has 6: all 12 c, and 3 d that singer 3 gives to 2.
        Check.due("and once more", x.forget(), 12 + 3);
    }

    private static void noVerse() {
        SongChoir x = new SongChoir();
        Check.dueThrow("in a new object", x::forget, Check.STATE);
        Check.sing(x, "a");
        x.forget();
        Check.dueThrow("behind the last verse", x::forget, Check.STATE);
        Check.due("one action less is remembered", x.undo(), 1);
        Check.due("and the verse is there again", x.forget(), 0);
    }

    private static void singers1To8() {
        SongChoir x = Check.withVerses("ab");
        for (int k = 1; k <= 8; k++) {
            x.setSingers(k);
            Check.due("singers", x.about(2), k);
            Check.due("where the last one ends", x.singer(k - 1, 0) + x.singer(k - 1, 1), 2);
        }
        x.setSingers(1);
        Check.due("from the most to the fewest", x.about(2), 1);
    }

    private static void handedOverBySetSingers() {
        SongChoir x = Check.fullSong();
        Check.due("from 1 to 1", x.setSingers(1), 0);
        Check.due("from 1 to 8, all but the first 6", x.setSingers(8), 42);
        Check.due("from 8 to 8", x.setSingers(8), 0);
        Check.due("from 8 to 1", x.setSingers(1), 42);
        Check.due("without a song", new SongChoir().setSingers(8), 0);
        SongChoir y = Check.withVerses("a");
        Check.due("one note, from singer 0 to singer 7", y.setSingers(8), 1);
        Check.due("and to singer 6", y.setSingers(7), 1);
    }

    private static void singersOutOfRange() {
        SongChoir x = Check.withVerses("ab");
        Check.dueThrow("setSingers(0)", () -> x.setSingers(0), Check.ARGUMENT);
        Check.dueThrow("setSingers(9)", () -> x.setSingers(9), Check.ARGUMENT);
        for (int k : FAR) {
            Check.dueThrow("setSingers(" + k + ")", () -> x.setSingers(k), Check.ARGUMENT);
        }
        Check.due("singers", x.about(2), 1);
    }

    private static void takesBackTheLastAction() {
        SongChoir x = Check.withVerses("ab", "c");
        x.setSingers(3);
        x.undo();
        Check.due("singers", x.about(2), 1);
        Check.due("notes that were handed over", x.about(7), 0);
        x.undo();
        Check.same("the song", Check.song(x), "ab");
        Check.due("verses that were sung", x.about(8), 1);
        x.undo();
        Check.same("all is as in a new object", Check.picture(x), Check.picture(new SongChoir()));
    }

    private static void takesBackForgotten() {
        SongChoir x = Check.fullSong();
        Check.sing(x, "abcdefghabcd");
        x.undo();
        Check.same("what had to make room is back", Check.song(x), Check.song(Check.fullSong()));
        Check.due("and the age", x.about(3), 0);
        SongChoir y = Check.withVerses("ab");
        y.forget();
        y.undo();
        Check.same("the only verse too", Check.song(y), "ab");
    }

    private static void stillRemembered() {
        SongChoir x = new SongChoir();
        x.setSingers(2);
        Check.due("of one", x.undo(), 0);
        for (int i = 0; i < 20; i++) {
            x.setSingers(1 + i % 8);
        }
        for (int left = 13; left >= 0; left--) {
            Check.due("of as many as can be", x.undo(), left);
        }
    }

    private static void noneRemembered() {
        SongChoir x = new SongChoir();
        Check.dueThrow("in a new object", x::undo, Check.STATE);
        x.setSingers(2);
        x.undo();
        Check.dueThrow("behind undo()", x::undo, Check.STATE);
        x.setSingers(3);
        x.save(0);
        x.restore(0);
        Check.dueThrow("behind restore()", x::undo, Check.STATE);
        Check.due("and nothing was taken back", x.about(2), 3);
    }
}
