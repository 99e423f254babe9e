/**
 * The edges that the document names in "What it is", in "The public face" and, of the terms, in
 * "The song", "Suffixes" and "The choir": a test for each sentence.
 */
public final class SongTermsEdgeTest {
    private static final String A12 = "a".repeat(12);

    public static void main(String[] args) {
        whatItIs();
        theSong();
        suffixes();
        theChoir();
        Check.end();
    }

    private static void whatItIs() {
        Check.edge("what it is", "An object is used for at most 512 calls after it has been made",
            SongTermsEdgeTest::lastOf512Calls);
        Check.edge("what it is", "An object is used for at most 512 calls after it has been made",
            SongTermsEdgeTest::lastOf512DearCalls);
        Check.edge("the constants", "NONE = -1", () -> Check.due("NONE", SongChoir.NONE, -1));
    }

    private static void theSong() {
        String where = "the song";
        Check.edge(where, "each a letter from a to h, told in codes 97 to 104", SongTermsEdgeTest::codesOfNotes);
        Check.edge(where, "each of 1 to 12 notes", SongTermsEdgeTest::lengthsOfVerses);
        Check.edge(where, "they are numbered from 0, the oldest first", SongTermsEdgeTest::numbersOfVerses);
        Check.edge(where, "A song has at most 48 notes", SongTermsEdgeTest::notesOfSong);
        Check.edge(where, "when it has more behind a new verse, its oldest verses are forgotten",
            SongTermsEdgeTest::oneNoteTooMany);
        Check.edge(where, "one by one, as long as it has more", SongTermsEdgeTest::asLongAsItHasMore);
        Check.edge(where, "Places are numbered from 0 in the song as it is now", SongTermsEdgeTest::placesAsItIsNow);
        Check.edge(where, "the age of the song is the number of all notes that were forgotten so far",
            SongTermsEdgeTest::ageOfSong);
        Check.edge(where, "In a new object there are no verses, and there is 1 singer",
            SongTermsEdgeTest::newObject);
    }

    private static void suffixes() {
        String where = "suffixes";
        Check.edge(where, "The suffix of a place is the row of all notes from it to the end",
            SongTermsEdgeTest::suffixOfLastPlace);
        Check.edge(where, "one that is the beginning of another one ahead of that",
            SongTermsEdgeTest::beginningsAhead);
        Check.edge(where, "The rank of a place is the number of suffixes ahead of its own one, from 0",
            SongTermsEdgeTest::ranksFrom0);
        Check.edge(where, "A piece is a row of 1 or more notes that stand one behind the other in the song",
            SongTermsEdgeTest::piecesOf1OrMore);
        Check.edge(where, "it is sung as often as there are places at which it begins (they may overlap)",
            SongTermsEdgeTest::overlaps);
        Check.edge(where, "A repeat is a piece that is sung at least twice", SongTermsEdgeTest::atLeastTwice);
    }

    private static void theChoir() {
        String where = "the choir";
        Check.edge(where, "There are 1 to 8 singers, numbered from 0", SongTermsEdgeTest::oneToEightSingers);
        Check.edge(where, "(each quotient rounded down)", SongTermsEdgeTest::quotientsRoundedDown);
        Check.edge(where, "(each quotient rounded down)", SongTermsEdgeTest::fewerNotesThanSingers);
        Check.edge(where, "When the song or the number of singers changes", SongTermsEdgeTest::whenNothingChanges);
        Check.edge(where, "each note that is in the song ahead of the whole action and behind it",
            SongTermsEdgeTest::neitherNewNorForgottenNotes);
        Check.edge(where, "is handed over once", SongTermsEdgeTest::onceForTheWholeAction);
    }

    private static void lastOf512Calls() {
        SongChoir x = new SongChoir();
        x.append('a');
        x.append('b');
        for (int i = 3; i <= 502; i++) {
            x.sing();
        }
        Check.due("call 503, about(8)", x.about(8), 500);
        Check.due("call 504, about(3)", x.about(3), 952);
        Check.due("call 505, about(0)", x.about(0), 48);
        Check.due("call 506, about(1)", x.about(1), 24);
        Check.due("call 507, note(47, 0)", x.note(47, 0), 'b');
        Check.due("call 508, note(47, 1)", x.note(47, 1), 24);
        Check.due("call 509, count()", x.count(), 24);
        Check.due("call 510, undo()", x.undo(), 13);
        Check.due("call 511, about(8)", x.about(8), 499);
        Check.due("call 512, about(3)", x.about(3), 950);
    }

    private static void lastOf512DearCalls() {
        SongChoir x = Check.fullSong();
        int calls = 4 * 14;
        for (; calls < 508; calls++) {
            x.bestAgain();
        }
        Check.due("call 509, bestAgain()", x.bestAgain(), 0);
        Check.due("call 510, bestSingers()", x.bestSingers(), 1);
        Check.due("call 511, wouldRepeat()", x.wouldRepeat(), 23);
        Check.due("call 512, simulate(0, 20)", x.simulate(0, 20), 8000);
    }

    private static void codesOfNotes() {
        SongChoir x = Check.withVerses("abcdefgh");
        for (int i = 0; i < 8; i++) {
            Check.due("the code at " + i, x.note(i, 0), 97 + i);
        }
        Check.dueThrow("a note below a", Check.text(x, "`")::sing, Check.STATE);
        Check.dueThrow("a note above h", Check.text(x, "i")::sing, Check.STATE);
    }

    private static void lengthsOfVerses() {
        SongChoir x = Check.withVerses("h", "abcdefghabcd");
        Check.due("the shortest one", x.verse(0, 1), 1);
        Check.due("the longest one", x.verse(1, 1), 12);
        Check.dueThrow("a verse of no note", Check.text(x, "")::sing, Check.STATE);
        Check.dueThrow("a verse of 13 notes", Check.text(x, "abcdefghabcde")::sing, Check.STATE);
        Check.due("verses are no more", x.about(1), 2);
    }

    private static void numbersOfVerses() {
        SongChoir x = Check.withVerses("a", "bc", "def");
        for (int v = 0; v < 3; v++) {
            Check.due("the length of " + v, x.verse(v, 1), v + 1);
        }
        Check.dueThrow("verse -1", () -> x.verse(-1, 1), Check.BOUNDS);
        Check.dueThrow("verse 3", () -> x.verse(3, 1), Check.BOUNDS);
        x.forget();
        Check.due("the oldest one of those that are left", x.verse(0, 1), 2);
    }

    private static void notesOfSong() {
        SongChoir x = Check.withVerses(A12, A12, A12, "bbbbbbbbbbb");
        Check.due("47 notes", x.about(0), 47);
        Check.sing(x, "c");
        Check.due("48 notes", x.about(0), 48);
        Check.due("48 notes are not too many", x.about(1), 5);
        Check.due("none is forgotten", x.about(3), 0);
        SongChoir y = Check.fullSong();
        Check.due("48 notes in verses of 12", y.about(0), 48);
        Check.due("4 verses of 12", y.about(1), 4);
    }

    private static void oneNoteTooMany() {
        SongChoir x = Check.withVerses("gg", A12, A12, A12, "bbbbbbbbbb");
        Check.due("48 notes", x.about(0), 48);
        Check.sing(x, "c");
        Check.due("49 notes are too many", x.about(0), 47);
        Check.due("the oldest verse as a whole is forgotten", x.about(3), 2);
        Check.due("and it alone", x.about(1), 5);
        Check.due("the one behind it is the oldest now", x.verse(0, 1), 12);
        Check.due("the new one is the last one", x.note(46, 0), 'c');
    }

    private static void asLongAsItHasMore() {
        SongChoir x = new SongChoir();
        for (int i = 0; i < 48; i++) {
            Check.text(x, i < 11 ? "a" : i < 12 ? "b" : "c").sing();
        }
        Check.due("48 verses of one note", x.about(1), 48);
        Check.sing(x, "dddddddddddd");
        Check.due("12 are forgotten, and no thirteenth", x.about(3), 12);
        Check.due("verses that are left", x.about(1), 37);
        Check.due("notes that are left", x.about(0), 48);
        Check.due("the oldest note that is left", x.note(0, 0), 'c');
        SongChoir y = Check.withVerses("a", "bbb", A12, A12, A12, "cccccccc");
        Check.sing(y, "dd");
        Check.due("a alone is not enough, bbb is more than enough", y.about(3), 4);
        Check.due("notes that are left then", y.about(0), 46);
    }

    private static void placesAsItIsNow() {
        SongChoir x = Check.fullSong();
        Check.due("place 0", x.note(0, 0), 'a');
        Check.due("place 47", x.note(47, 0), 'd');
        Check.dueThrow("place 48", () -> x.note(48, 0), Check.BOUNDS);
        Check.sing(x, "e");
        Check.due("place 0 behind e", x.note(0, 0), 'b');
        Check.due("place 36, the last one now", x.note(36, 0), 'e');
        Check.dueThrow("place 37", () -> x.note(37, 0), Check.BOUNDS);
        Check.due("the first suffix in the order", x.suffix(0), 0);
        Check.due("where the verses begin", x.verse(0, 0), 0);
        Check.due("where the last one begins", x.verse(3, 0), 36);
    }

    private static void ageOfSong() {
        SongChoir x = Check.fullSong();
        Check.due("of a song from which nothing is forgotten", x.about(3), 0);
        Check.sing(x, "ee");
        Check.due("behind a verse that sing() forgot", x.about(3), 12);
        x.forget();
        Check.due("and one that forget() forgot", x.about(3), 24);
        x.again(1);
        Check.due("with room enough", x.about(3), 24);
        x.again(1);
        Check.due("and one that again() forgot", x.about(3), 36);
        x.undo();
        Check.due("of the state of then", x.about(3), 24);
    }

    private static void newObject() {
        SongChoir x = new SongChoir();
        Check.due("verses", x.about(1), 0);
        Check.due("notes", x.about(0), 0);
        Check.due("singers", x.about(2), 1);
        Check.dueThrow("verse 0", () -> x.verse(0, 0), Check.BOUNDS);
        Check.dueThrow("singer 1", () -> x.singer(1, 0), Check.BOUNDS);
    }

    private static void suffixOfLastPlace() {
        SongChoir x = Check.withVerses("ba", "ba");
        // a (3), aba (1), ba (2), baba (0): a suffix goes on behind the end of its verse.
        int[] order = {3, 1, 2, 0};
        for (int rank = 0; rank < order.length; rank++) {
            Check.due("suffix(" + rank + ")", x.suffix(rank), order[rank]);
        }
        Check.due("aba has a in common", x.note(1, 4), 1);
        Check.due("baba has ba in common", x.note(0, 4), 2);
    }

    private static void beginningsAhead() {
        SongChoir x = Check.fullSong();
        x.forget();
        x.forget();
        x.forget();
        for (int i = 0; i < 12; i++) {
            Check.due("of dd.., the rank of " + i, x.note(i, 1), 11 - i);
        }
        SongChoir y = Check.withVerses("ab", "ab", "c");
        Check.due("abc is no beginning of ababc", y.note(2, 1), 1);
        SongChoir z = Check.withVerses("ab", "ab");
        Check.due("ab is the beginning of abab", z.note(2, 1), 0);
        Check.due("and abab behind it", z.note(0, 1), 1);
    }

    private static void ranksFrom0() {
        SongChoir x = Check.fullSong();
        Check.due("the first one, which is followed by the fewest a", x.note(0, 1), 0);
        Check.due("the last one in the order", x.note(36, 1), 47);
        Check.due("the suffix of rank 47", x.suffix(47), 36);
        Check.due("the only one", Check.withVerses("h").note(0, 1), 0);
    }

    private static void piecesOf1OrMore() {
        Check.due("no note", new SongChoir().about(4), 0);
        Check.due("a", Check.withVerses("a").about(4), 1);
        Check.due("a, b and the whole song", Check.withVerses("a", "b").about(4), 3);
        Check.due("a row of one note", Check.withVerses("a", "b").most(1, true), 1);
        Check.due("the row of all notes", Check.withVerses("a", "b").most(2, true), 1);
    }

    private static void overlaps() {
        SongChoir x = Check.withVerses("aaa", "aaa");
        Check.due("most(5, true)", x.most(5, true), 2);
        Check.due("most(6, true)", x.most(6, true), 1);
        Check.due("count() of aaa", Check.text(x, "aaa").count(), 4);
        Check.due("the longest repeat", x.about(5), 5);
    }

    private static void atLeastTwice() {
        SongChoir x = Check.withVerses("abcdefgh");
        Check.due("each note once", x.about(5), 0);
        Check.sing(x, "h");
        Check.due("h twice", x.about(5), 1);
        Check.due("at its lowest place", x.about(6), 7);
        Check.sing(x, "h");
        Check.due("hh twice, h three times", x.about(5), 2);
    }

    private static void oneToEightSingers() {
        SongChoir x = Check.fullSong();
        Check.dueThrow("0 singers", () -> x.setSingers(0), Check.ARGUMENT);
        Check.dueThrow("9 singers", () -> x.setSingers(9), Check.ARGUMENT);
        x.setSingers(8);
        Check.due("8 singers", x.about(2), 8);
        Check.due("the first one", x.singer(0, 0), 0);
        Check.due("the last one", x.singer(7, 0), 42);
        Check.due("which has the end of the order", x.note(36, 3), 7);
        Check.dueThrow("singer 8", () -> x.singer(8, 0), Check.BOUNDS);
        Check.dueThrow("singer -1", () -> x.singer(-1, 0), Check.BOUNDS);
        x.setSingers(1);
        Check.due("1 singer", x.about(2), 1);
        Check.due("who keeps all", x.singer(0, 1), 48);
        Check.due("the last one of the order too", x.note(36, 3), 0);
        Check.dueThrow("singer 1", () -> x.singer(1, 0), Check.BOUNDS);
    }

    private static void quotientsRoundedDown() {
        SongChoir x = Check.fullSong();
        x.setSingers(7);
        int[] from = {0, 6, 13, 20, 27, 34, 41, 48};
        for (int s = 0; s < 7; s++) {
            Check.due("48 notes, 7 singers: where " + s + " begins", x.singer(s, 0), from[s]);
            Check.due("how many " + s + " keeps", x.singer(s, 1), from[s + 1] - from[s]);
            Check.due("the first one of " + s, x.note(x.suffix(from[s]), 3), s);
            Check.due("the last one of " + s, x.note(x.suffix(from[s + 1] - 1), 3), s);
        }
    }

    private static void fewerNotesThanSingers() {
        SongChoir x = Check.withVerses("a");
        x.setSingers(8);
        for (int s = 0; s < 8; s++) {
            Check.due("1 note, 8 singers: how many " + s + " keeps", x.singer(s, 1), s == 7 ? 1 : 0);
        }
        Check.due("singer of the only note", x.note(0, 3), 7);
        x.forget();
        for (int s = 0; s < 8; s++) {
            Check.due("no note: where " + s + " begins", x.singer(s, 0), 0);
            Check.due("no note: how many " + s + " keeps", x.singer(s, 1), 0);
        }
    }

    private static void whenNothingChanges() {
        SongChoir x = Check.fullSong();
        Check.due("with 1 singer nobody hands over", x.about(7), 0);
        x.setSingers(8);
        int handed = x.about(7);
        Check.due("all but the first 6 of the order", handed, 42);
        Check.due("as many singers as before", x.setSingers(8), 0);
        Check.due("so nothing is counted", x.about(7), 42);
    }

    private static void neitherNewNorForgottenNotes() {
        SongChoir x = new SongChoir();
        x.setSingers(8);
        Check.due("new notes alone", Check.sing(x, "abcdefgh"), 0);
        Check.due("forgotten notes alone", x.forget(), 0);
        Check.due("nothing was handed over", x.about(7), 0);
        SongChoir y = Check.withVerses(A12, "bbbbbbbbbbbb", "cccccccccccc", "dddddddddddd");
        y.setSingers(4);
        // c and d go one singer up to make room for h; the old a are gone, the new h were not there.
        Check.due("12 b, 12 c and 12 d", Check.sing(y, "hhhhhhhhhhhh"), 36);
    }

    private static void onceForTheWholeAction() {
        SongChoir x = Check.fullSong();
        x.setSingers(2);
        int handed = x.about(7);
        // Behind the new verse alone b would be with singer 1; when the old one is gone it is back.
        Check.due("a new verse of a in place of the old one", x.again(0), 0);
        Check.due("nothing is counted on the way", x.about(7), handed);
        Check.due("b is with singer 0", x.note(0, 3), 0);
        Check.due("c is with singer 1", x.note(12, 3), 1);
    }
}
