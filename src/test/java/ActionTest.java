/** Promises 15 to 19: actions and undo. */
public final class ActionTest {
    public static void main(String[] args) {
        singing();
        singingTooMuch();
        singingAgain();
        forgetting();
        settingSingers();
        undoing();
        rememberingFourteen();
        refusedCallsChangeNothing();
        Check.end();
    }

    private static void singing() {
        SongChoir x = Check.text(new SongChoir(), "cab");
        Check.due("promise 15: nobody else is there", x.sing(), 0);
        Check.same("promise 15: the song", Check.song(x), "cab");
        Check.due("promise 15: the text is kept", x.clearText(), 3);
        x.setSingers(2);
        // ab (place 1), b (2), cab (0): the first one alone is with singer 0; behind it, with
        // abd (1), bd (2), cabd (0), d (3), the note at 2 comes to singer 0 too.
        Check.due("promise 15: one note is handed over", Check.sing(x, "d"), 1);
        Check.due("promise 15: and counted", x.about(7), 3);
        Check.due("promise 15: it is with singer 0 now", x.note(2, 3), 0);
        Check.due("promise 15: a verse of 12", Check.sing(x, "abcdefghabcd") >= 0 ? x.verse(2, 1) : 0, 12);
        Check.dueThrow("promise 15: 13 notes", Check.text(x, "abcdefghabcde")::sing, Check.STATE);
        Check.dueThrow("promise 15: no note", Check.text(x, "")::sing, Check.STATE);
        Check.dueThrow("promise 15: no letter", Check.text(x, "abz")::sing, Check.STATE);
        Check.due("promise 15: what is refused is not sung", x.about(8), 3);
    }

    private static void singingTooMuch() {
        SongChoir x = Check.withVerses("a", "bb", "ccc", "dddddddddddd", "eeeeeeeeeeee", "ffffffffffff", "gggggg");
        Check.due("promise 15: exactly 48 notes may stay", x.about(0), 48);
        Check.due("promise 15: with all verses", x.about(1), 7);
        Check.sing(x, "hh");
        Check.due("promise 15: a goes, and bb since one is still too many", x.about(3), 3);
        Check.due("promise 15: what is left", x.about(0), 47);
        Check.due("promise 15: verses left", x.about(1), 6);
        Check.due("promise 15: ccc is the first one now", x.note(0, 0), 'c');
        Check.due("promise 15: hh is the last one", x.verse(5, 0), 45);
        Check.sing(x, "h");
        Check.due("promise 15: 48 again, and nothing is forgotten", x.about(3), 3);
    }

    private static void singingAgain() {
        SongChoir x = Check.withVerses("cab", "bage");
        Check.due("promise 16: one singer keeps all", x.again(0), 0);
        Check.same("promise 16: the song", Check.song(x), "cabbagecab");
        Check.due("promise 16: a verse more", x.verse(2, 1), 3);
        Check.dueThrow("promise 16: again(3)", () -> x.again(3), Check.BOUNDS);
        Check.dueThrow("promise 16: again(-1)", () -> x.again(-1), Check.BOUNDS);
        Check.dueThrow("promise 16: without a verse", () -> new SongChoir().again(0), Check.BOUNDS);
        SongChoir y = Check.withVerses("aaaaaaaaaaab", "cccccccccccc", "dddddddddddd", "eeeeeeeeeeee");
        y.again(0);
        Check.due("promise 16: the verse itself may be forgotten for it", y.about(3), 12);
        Check.due("promise 16: and is sung all the same", y.note(47, 0), 'b');
        Check.due("promise 16: from its beginning on", y.note(36, 0), 'a');
        SongChoir z = Check.withVerses("a", "b", "c");
        z.setSingers(2);
        // Of abc, bc and c singer 0 has the first one; of abcc, bcc, c and cc the first two.
        Check.due("promise 16: b is handed over", z.again(2), 1);
        Check.due("promise 16: to singer 0", z.note(1, 3), 0);
    }

    private static void forgetting() {
        SongChoir x = Check.withVerses("cab", "bage");
        Check.due("promise 17: one singer keeps all", x.forget(), 0);
        Check.same("promise 17: the song", Check.song(x), "bage");
        Check.due("promise 17: the verse left begins at 0", x.verse(0, 0), 0);
        Check.due("promise 17: age", x.about(3), 3);
        x.forget();
        Check.due("promise 17: no verse is left", x.about(1), 0);
        Check.due("promise 17: no note is left", x.about(0), 0);
        Check.due("promise 17: the age stays", x.about(3), 7);
        Check.dueThrow("promise 17: without a verse", x::forget, Check.STATE);
        SongChoir y = Check.withVerses("h", "aa", "cb");
        y.forget();
        y.setSingers(2);
        // Of aacb, acb, b and cb singer 1 has the last two; of b and cb it has cb alone.
        Check.due("promise 17: b is handed over", y.forget(), 1);
        Check.due("promise 17: to singer 0", y.note(1, 3), 0);
    }

    private static void settingSingers() {
        SongChoir x = Check.withVerses("cab", "bage");
        Check.due("promise 18: 1 to 3", x.setSingers(3), 5);
        Check.due("promise 18: 3 to 2", x.setSingers(2), 4);
        Check.due("promise 18: so many as before", x.setSingers(2), 0);
        // Of 8 singers, the first has none and the others one note each: rank 0 is with singer 1.
        Check.due("promise 18: 2 to 8", x.setSingers(8), 7);
        Check.due("promise 18: singers", x.about(2), 8);
        Check.due("promise 18: without a song", new SongChoir().setSingers(8), 0);
        Check.dueThrow("promise 18: setSingers(0)", () -> x.setSingers(0), Check.ARGUMENT);
        Check.dueThrow("promise 18: setSingers(9)", () -> x.setSingers(9), Check.ARGUMENT);
        Check.dueThrow("promise 18: setSingers(-1)", () -> x.setSingers(-1), Check.ARGUMENT);
        Check.due("promise 18: a refused number is not taken", x.about(2), 8);
    }

    private static void undoing() {
        SongChoir x = new SongChoir();
        String[] pictures = new String[6];
        pictures[0] = Check.picture(x);
        Check.sing(x, "cab");
        pictures[1] = Check.picture(x);
        x.setSingers(3);
        pictures[2] = Check.picture(x);
        x.setSingers(3);
        pictures[3] = Check.picture(x);
        x.again(0);
        pictures[4] = Check.picture(x);
        x.forget();
        Check.text(x, "hgfe");
        for (int left = 4; left >= 0; left--) {
            Check.due("promise 19: states left", x.undo(), left);
            Check.same("promise 19: the state of then", Check.picture(x), pictures[left]);
        }
        Check.dueThrow("promise 19: none is left", x::undo, Check.STATE);
        Check.due("promise 19: the text is no part of a state", x.clearText(), 4);
        x.setSingers(2);
        Check.due("promise 19: undo itself is no action", x.undo(), 0);
    }

    private static void rememberingFourteen() {
        SongChoir x = new SongChoir();
        for (int i = 0; i < 17; i++) {
            Check.sing(x, "a");
        }
        for (int left = 13; left >= 5; left--) {
            Check.due("promise 19: of 17 actions, 14 are remembered", x.undo(), left);
        }
        Check.due("promise 19: notes of then", x.about(0), 8);
        for (int i = 0; i < 12; i++) {
            Check.sing(x, "b");
        }
        for (int left = 13; left >= 0; left--) {
            Check.due("promise 19: and 14 once more", x.undo(), left);
            Check.due("promise 19: each with its notes", x.about(0), 6 + left);
        }
        Check.dueThrow("promise 19: the older ones are gone", x::undo, Check.STATE);
    }

    private static void refusedCallsChangeNothing() {
        SongChoir x = Check.text(Check.withVerses("cab", "bage"), "ab?");
        String before = Check.picture(x);
        Check.dueThrow("promise 15: sing", x::sing, Check.STATE);
        Check.dueThrow("promise 16: again", () -> x.again(2), Check.BOUNDS);
        Check.dueThrow("promise 18: setSingers", () -> x.setSingers(0), Check.ARGUMENT);
        Check.dueThrow("promise 26: restore", () -> x.restore(0), Check.STATE);
        Check.same("a call that throws changes nothing", Check.picture(x), before);
        Check.due("a call that throws is not remembered", x.undo(), 1);
        Check.due("nor does it touch the text", x.clearText(), 3);
    }
}
