/** The edges that the document names in promises 5 to 9: a test for each sentence. */
public final class SongEdgeTest {
    private static final String A12 = "a".repeat(12);
    private static final int[] FAR = {Integer.MIN_VALUE, -1, 48, Integer.MAX_VALUE};

    public static void main(String[] args) {
        promise5();
        promise6();
        promise7();
        promise8();
        promise9();
        Check.end();
    }

    private static void promise5() {
        String where = "promise 5";
        Check.edge(where, "0: the number of notes", SongEdgeTest::numberOfNotes);
        Check.edge(where, "1: of verses", SongEdgeTest::numberOfVerses);
        Check.edge(where, "2: of singers", SongEdgeTest::numberOfSingers);
        Check.edge(where, "3: the age of the song", SongEdgeTest::age);
        Check.edge(where, "4: the number of different pieces", SongEdgeTest::differentPieces);
        Check.edge(where, "5: the length of the longest repeat (0 without one)", SongEdgeTest::longestRepeat);
        Check.edge(where, "6: the lowest place at which a repeat of this length begins, NONE without one",
            SongEdgeTest::placeOfLongestRepeat);
        Check.edge(where, "7: the notes that were handed over so far", SongEdgeTest::handedOver);
        Check.edge(where, "8: the verses that were sung so far (as new ones)", SongEdgeTest::sungAsNew);
        Check.edge(where, "Throws IllegalArgumentException if what is not 0 to 8", SongEdgeTest::aboutWhat);
    }

    private static void promise6() {
        String where = "promise 6";
        Check.edge(where, "0: the code of its note", SongEdgeTest::codesAtTheEnds);
        Check.edge(where, "1: its rank", SongEdgeTest::ranksAtTheEnds);
        Check.edge(where, "2: its verse", SongEdgeTest::versesAtTheirEnds);
        Check.edge(where, "3: its singer", SongEdgeTest::singersAtTheirEnds);
        Check.edge(where, "with the one just ahead of it in the order (0 for the first one)",
            SongEdgeTest::inCommonWithTheOneAhead);
        Check.edge(where, "Throws IndexOutOfBoundsException if there is no such place", SongEdgeTest::noSuchPlace);
        Check.edge(where, "Throws IllegalArgumentException if what is not 0 to 4", SongEdgeTest::noteWhat);
    }

    private static void promise7() {
        String where = "promise 7";
        Check.edge(where, "rank: 0 or more", SongEdgeTest::ranksFrom0);
        Check.edge(where, "NONE if there is none", SongEdgeTest::noSuchRank);
        Check.edge(where, "Throws IllegalArgumentException if rank is negative", SongEdgeTest::negativeRank);
    }

    private static void promise8() {
        String where = "promise 8";
        Check.edge(where, "0: the place at which it begins", SongEdgeTest::beginnings);
        Check.edge(where, "1: its length", SongEdgeTest::lengths);
        Check.edge(where, "the longest piece of it that is sung at least twice in the song (0 without one",
            SongEdgeTest::noPieceTwice);
        Check.edge(where, "it lies in this verse at least once, as a whole", SongEdgeTest::inThisVerseAsAWhole);
        Check.edge(where, "Throws IndexOutOfBoundsException if there is no such verse", SongEdgeTest::noSuchVerse);
        Check.edge(where, "Throws IllegalArgumentException if what is not 0 to 2", SongEdgeTest::verseWhat);
    }

    private static void promise9() {
        String where = "promise 9";
        Check.edge(where, "0: the lowest rank that the singer keeps", SongEdgeTest::lowestRanks);
        Check.edge(where, "(also if there is none: then that from which it would begin)", SongEdgeTest::idleSingers);
        Check.edge(where, "1: how many suffixes the singer keeps", SongEdgeTest::suffixesKept);
        Check.edge(where, "2: how many notes all of these have in common at the beginning",
            SongEdgeTest::inCommonToAll);
        Check.edge(where, "(0 without any)", SongEdgeTest::inCommonToNone);
        Check.edge(where, "Throws IndexOutOfBoundsException if there is no such singer", SongEdgeTest::noSuchSinger);
        Check.edge(where, "Throws IllegalArgumentException if what is not 0 to 2", SongEdgeTest::singerWhat);
    }

    private static void numberOfNotes() {
        Check.due("in a new object", new SongChoir().about(0), 0);
        Check.due("one note", Check.withVerses("a").about(0), 1);
        Check.due("as many as can be", Check.fullSong().about(0), 48);
        Check.due("behind the last verse", Check.emptiedSong().about(0), 0);
    }

    private static void numberOfVerses() {
        Check.due("in a new object", new SongChoir().about(1), 0);
        SongChoir x = new SongChoir();
        x.append('a');
        for (int i = 1; i <= 48; i++) {
            x.sing();
            Check.due("verses of one note", x.about(1), i);
        }
        x.sing();
        Check.due("as many as can be", x.about(1), 48);
        Check.due("behind the last verse", Check.emptiedSong().about(1), 0);
    }

    private static void numberOfSingers() {
        SongChoir x = new SongChoir();
        Check.due("in a new object", x.about(2), 1);
        x.setSingers(8);
        Check.due("as many as can be", x.about(2), 8);
        x.setSingers(1);
        Check.due("as few as can be", x.about(2), 1);
    }

    private static void age() {
        Check.due("in a new object", new SongChoir().about(3), 0);
        Check.due("of a song as long as can be", Check.fullSong().about(3), 0);
        Check.due("behind the last verse", Check.emptiedSong().about(3), 2);
    }

    private static void differentPieces() {
        Check.due("in a new object", new SongChoir().about(4), 0);
        Check.due("of one note", Check.withVerses("h").about(4), 1);
        Check.due("of a note twice", Check.withVerses("h", "h").about(4), 2);
        Check.due("of two notes", Check.withVerses("h", "g").about(4), 3);
        Check.due("of 48 notes alike", Check.withVerses(A12, A12, A12, A12).about(4), 48);
        // Of 1176 rows, those within one verse are alike 12 - n + 1 times: 4 * 66 are no new ones.
        Check.due("of 4 times 12 notes alike", Check.fullSong().about(4), 1176 - 264);
        Check.due("behind the last verse", Check.emptiedSong().about(4), 0);
    }

    private static void longestRepeat() {
        Check.due("in a new object", new SongChoir().about(5), 0);
        Check.due("of one note", Check.withVerses("a").about(5), 0);
        Check.due("of 8 different notes", Check.withVerses("hgfedcba").about(5), 0);
        Check.due("of a note twice", Check.withVerses("a", "a").about(5), 1);
        Check.due("as long as can be", Check.withVerses(A12, A12, A12, A12).about(5), 47);
        Check.due("behind the last verse", Check.emptiedSong().about(5), 0);
        SongChoir x = Check.withVerses("a", "a");
        x.forget();
        Check.due("when one of two is forgotten", x.about(5), 0);
    }

    private static void placeOfLongestRepeat() {
        Check.due("in a new object", new SongChoir().about(6), -1);
        Check.due("of one note", Check.withVerses("a").about(6), -1);
        Check.due("of 8 different notes", Check.withVerses("hgfedcba").about(6), -1);
        Check.due("at place 0", Check.withVerses("a", "a").about(6), 0);
        Check.due("at the last but one place", Check.withVerses("abb").about(6), 1);
        // a and b twice each, and no row of two notes: it is the place that decides, not the order.
        Check.due("a begins ahead of b", Check.withVerses("acbadb").about(6), 0);
        Check.due("b begins ahead of a", Check.withVerses("bdabea").about(6), 0);
        Check.due("b behind another note", Check.withVerses("c", "bdabea").about(6), 1);
        Check.due("behind the last verse", Check.emptiedSong().about(6), -1);
    }

    private static void handedOver() {
        SongChoir x = Check.fullSong();
        Check.due("with one singer", x.about(7), 0);
        x.setSingers(2);
        Check.due("half of all", x.about(7), 24);
        x.setSingers(1);
        Check.due("and back", x.about(7), 48);
        x.undo();
        Check.due("one of them taken back", x.about(7), 24);
    }

    private static void sungAsNew() {
        SongChoir x = new SongChoir();
        Check.due("in a new object", x.about(8), 0);
        Check.sing(x, "ab");
        x.again(0);
        Check.due("sing() and again()", x.about(8), 2);
        x.forget();
        x.forget();
        Check.due("forgotten ones too", x.about(8), 2);
        x.setSingers(2);
        Check.due("and nothing else", x.about(8), 2);
        x.sing();
        Check.due("on top of those that are forgotten", x.about(8), 3);
    }

    private static void aboutWhat() {
        SongChoir x = Check.withVerses("ab");
        Check.due("about(0)", x.about(0), 2);
        Check.due("about(8)", x.about(8), 1);
        Check.dueThrow("about(9)", () -> x.about(9), Check.ARGUMENT);
        for (int what : FAR) {
            Check.dueThrow("about(" + what + ")", () -> x.about(what), Check.ARGUMENT);
        }
    }

    private static void codesAtTheEnds() {
        SongChoir x = Check.fullSong();
        Check.due("at place 0", x.note(0, 0), 'a');
        Check.due("at place 47", x.note(47, 0), 'd');
        Check.due("the lowest code", Check.withVerses("ah").note(0, 0), 97);
        Check.due("the highest code", Check.withVerses("ah").note(1, 0), 104);
    }

    private static void ranksAtTheEnds() {
        Check.due("of the only place", Check.withVerses("c").note(0, 1), 0);
        SongChoir x = Check.withVerses(A12, A12, A12, A12);
        Check.due("of place 47, which is ahead of all", x.note(47, 1), 0);
        Check.due("of place 0, which is behind all", x.note(0, 1), 47);
    }

    private static void versesAtTheirEnds() {
        SongChoir x = Check.withVerses("ab", "c", "def");
        int[] verses = {0, 0, 1, 2, 2, 2};
        for (int i = 0; i < verses.length; i++) {
            Check.due("of place " + i, x.note(i, 2), verses[i]);
        }
        x.forget();
        Check.due("of place 0 behind forget()", x.note(0, 2), 0);
        Check.due("of place 1 behind forget()", x.note(1, 2), 1);
        SongChoir y = Check.fullSong();
        Check.due("of place 47", y.note(47, 2), 3);
        Check.due("of place 11", y.note(11, 2), 0);
        Check.due("of place 12", y.note(12, 2), 1);
    }

    private static void singersAtTheirEnds() {
        SongChoir x = Check.withVerses(A12, A12, A12, A12);
        Check.due("with one singer", x.note(47, 3), 0);
        x.setSingers(8);
        // The last places are the first ones in the order; each singer has six.
        Check.due("of rank 0", x.note(47, 3), 0);
        Check.due("of rank 5", x.note(42, 3), 0);
        Check.due("of rank 6", x.note(41, 3), 1);
        Check.due("of rank 41", x.note(6, 3), 6);
        Check.due("of rank 42", x.note(5, 3), 7);
        Check.due("of rank 47", x.note(0, 3), 7);
    }

    private static void inCommonWithTheOneAhead() {
        SongChoir x = Check.withVerses("ba", "b");
        // a (as ab), b, bab: the first one has none ahead of it.
        Check.due("of the first one", x.note(1, 4), 0);
        Check.due("of b, behind ab", x.note(2, 4), 0);
        Check.due("of bab, behind b", x.note(0, 4), 1);
        Check.due("of the only one", Check.withVerses("a").note(0, 4), 0);
        SongChoir y = Check.withVerses(A12, A12, A12, A12);
        Check.due("of the first one of 48", y.note(47, 4), 0);
        Check.due("of the last one of 48", y.note(0, 4), 47);
    }

    private static void noSuchPlace() {
        SongChoir x = Check.withVerses("ab");
        Check.due("the last place", x.note(1, 0), 'b');
        Check.dueThrow("just behind it", () -> x.note(2, 0), Check.BOUNDS);
        for (int i : FAR) {
            Check.dueThrow("place " + i, () -> x.note(i, 0), Check.BOUNDS);
        }
        Check.dueThrow("place 0 of a new object", () -> new SongChoir().note(0, 0), Check.BOUNDS);
        Check.dueThrow("place 0 behind the last verse", () -> Check.emptiedSong().note(0, 0), Check.BOUNDS);
        Check.dueThrow("place 48 of 48", () -> Check.fullSong().note(48, 0), Check.BOUNDS);
    }

    private static void noteWhat() {
        SongChoir x = Check.withVerses("ba");
        Check.due("note(0, 0)", x.note(0, 0), 'b');
        Check.due("note(0, 4)", x.note(0, 4), 0);
        Check.dueThrow("note(0, 5)", () -> x.note(0, 5), Check.ARGUMENT);
        for (int what : FAR) {
            Check.dueThrow("note(0, " + what + ")", () -> x.note(0, what), Check.ARGUMENT);
        }
    }

    private static void ranksFrom0() {
        Check.due("rank 0 of one", Check.withVerses("c").suffix(0), 0);
        SongChoir x = Check.withVerses(A12, A12, A12, A12);
        Check.due("rank 0 of 48", x.suffix(0), 47);
        Check.due("rank 47 of 48", x.suffix(47), 0);
    }

    private static void noSuchRank() {
        SongChoir x = Check.withVerses("ba");
        Check.due("the last rank", x.suffix(1), 0);
        Check.due("just behind it", x.suffix(2), -1);
        Check.due("rank 0 of a new object", new SongChoir().suffix(0), -1);
        Check.due("rank 0 behind the last verse", Check.emptiedSong().suffix(0), -1);
        Check.due("rank 48 of 48", Check.fullSong().suffix(48), -1);
        Check.due("the greatest rank", x.suffix(Integer.MAX_VALUE), -1);
    }

    private static void negativeRank() {
        SongChoir x = Check.withVerses("ba");
        Check.dueThrow("suffix(-1)", () -> x.suffix(-1), Check.ARGUMENT);
        Check.dueThrow("the least rank", () -> x.suffix(Integer.MIN_VALUE), Check.ARGUMENT);
        Check.dueThrow("of a new object", () -> new SongChoir().suffix(-1), Check.ARGUMENT);
    }

    private static void beginnings() {
        SongChoir x = Check.fullSong();
        for (int v = 0; v < 4; v++) {
            Check.due("of verse " + v, x.verse(v, 0), 12 * v);
        }
        Check.sing(x, "a");
        Check.due("of the first one that is left", x.verse(0, 0), 0);
        Check.due("of the new one", x.verse(3, 0), 36);
    }

    private static void lengths() {
        SongChoir x = Check.withVerses("a", A12);
        Check.due("the shortest", x.verse(0, 1), 1);
        Check.due("the longest", x.verse(1, 1), 12);
    }

    private static void noPieceTwice() {
        SongChoir x = Check.withVerses("ab", "c", "a");
        Check.due("a twice", x.verse(0, 2), 1);
        Check.due("c once", x.verse(1, 2), 0);
        Check.due("a, the last verse", x.verse(2, 2), 1);
        x.forget();
        Check.due("a once, when the other one is forgotten", x.verse(1, 2), 0);
        Check.due("twice in the same verse", Check.withVerses("aa").verse(0, 2), 1);
        Check.due("the whole of it", Check.withVerses(A12, "b", A12).verse(0, 2), 12);
    }

    private static void inThisVerseAsAWhole() {
        SongChoir x = Check.withVerses("ca", "bc", "ab");
        Check.due("ca, although cab begins there", x.verse(0, 2), 2);
        Check.due("b and c, of which bc is sung once", x.verse(1, 2), 1);
        Check.due("ab", x.verse(2, 2), 2);
        SongChoir y = Check.withVerses("h", "a", "h", "a");
        Check.due("h alone, although ha is sung twice", y.verse(0, 2), 1);
        Check.due("no more notes than the verse has", y.verse(3, 2), 1);
    }

    private static void noSuchVerse() {
        SongChoir x = Check.withVerses("ab", "c");
        Check.due("the last verse", x.verse(1, 1), 1);
        Check.dueThrow("just behind it", () -> x.verse(2, 1), Check.BOUNDS);
        for (int v : FAR) {
            Check.dueThrow("verse " + v, () -> x.verse(v, 0), Check.BOUNDS);
        }
        Check.dueThrow("verse 0 of a new object", () -> new SongChoir().verse(0, 0), Check.BOUNDS);
        Check.dueThrow("verse 0 behind the last one", () -> Check.emptiedSong().verse(0, 0), Check.BOUNDS);
    }

    private static void verseWhat() {
        SongChoir x = Check.withVerses("aa", "c");
        Check.due("verse(0, 0)", x.verse(0, 0), 0);
        Check.due("verse(0, 2)", x.verse(0, 2), 1);
        Check.dueThrow("verse(0, 3)", () -> x.verse(0, 3), Check.ARGUMENT);
        for (int what : FAR) {
            Check.dueThrow("verse(0, " + what + ")", () -> x.verse(0, what), Check.ARGUMENT);
        }
    }

    private static void lowestRanks() {
        SongChoir x = Check.fullSong();
        Check.due("of the only singer", x.singer(0, 0), 0);
        x.setSingers(8);
        Check.due("of the first one of 8", x.singer(0, 0), 0);
        Check.due("of the second one of 8", x.singer(1, 0), 6);
        Check.due("of the last one of 8", x.singer(7, 0), 42);
        x.setSingers(5);
        int[] from = {0, 9, 19, 28, 38};
        for (int s = 0; s < from.length; s++) {
            Check.due("rounded down, of singer " + s, x.singer(s, 0), from[s]);
        }
    }

    private static void idleSingers() {
        SongChoir x = Check.withVerses("aab");
        x.setSingers(8);
        int[] from = {0, 0, 0, 1, 1, 1, 2, 2};
        for (int s = 0; s < from.length; s++) {
            Check.due("3 notes, 8 singers: where " + s + " begins", x.singer(s, 0), from[s]);
        }
        SongChoir y = new SongChoir();
        y.setSingers(8);
        Check.due("of the last one without a song", y.singer(7, 0), 0);
    }

    private static void suffixesKept() {
        Check.due("of no note", new SongChoir().singer(0, 1), 0);
        SongChoir x = Check.fullSong();
        Check.due("all of them", x.singer(0, 1), 48);
        x.setSingers(8);
        Check.due("an eighth, the first one", x.singer(0, 1), 6);
        Check.due("an eighth, the last one", x.singer(7, 1), 6);
        SongChoir y = Check.withVerses("aab");
        y.setSingers(8);
        int[] kept = {0, 0, 1, 0, 0, 1, 0, 1};
        for (int s = 0; s < kept.length; s++) {
            Check.due("3 notes, 8 singers: how many " + s + " keeps", y.singer(s, 1), kept[s]);
        }
    }

    private static void inCommonToAll() {
        SongChoir x = Check.withVerses(A12, "b");
        x.setSingers(2);
        // Of 13 suffixes, those that begin with 12 to 7 a are with singer 0; b alone is the last one.
        Check.due("the fewest of all", x.singer(0, 2), 7);
        Check.due("nothing, since b is among them", x.singer(1, 2), 0);
        SongChoir y = Check.withVerses("bab");
        y.setSingers(2);
        Check.due("b and bab, whatever is ahead of them", y.singer(1, 2), 1);
        y.setSingers(3);
        Check.due("all of a suffix alone", y.singer(2, 2), 3);
        Check.due("all of the first one", y.singer(0, 2), 2);
    }

    private static void inCommonToNone() {
        SongChoir x = Check.withVerses("aab");
        x.setSingers(8);
        for (int s : new int[] {0, 1, 3, 4, 6}) {
            Check.due("of singer " + s + ", who keeps none", x.singer(s, 2), 0);
        }
        Check.due("without a song", new SongChoir().singer(0, 2), 0);
        Check.due("behind the last verse", Check.emptiedSong().singer(0, 2), 0);
    }

    private static void noSuchSinger() {
        SongChoir x = Check.withVerses("ab");
        x.setSingers(3);
        Check.due("the last singer", x.singer(2, 1), 1);
        Check.dueThrow("just behind it", () -> x.singer(3, 1), Check.BOUNDS);
        for (int s : FAR) {
            Check.dueThrow("singer " + s, () -> x.singer(s, 0), Check.BOUNDS);
        }
        x.setSingers(8);
        Check.dueThrow("singer 8 of 8", () -> x.singer(8, 0), Check.BOUNDS);
    }

    private static void singerWhat() {
        SongChoir x = Check.withVerses("ab");
        Check.due("singer(0, 0)", x.singer(0, 0), 0);
        Check.due("singer(0, 2)", x.singer(0, 2), 0);
        Check.dueThrow("singer(0, 3)", () -> x.singer(0, 3), Check.ARGUMENT);
        for (int what : FAR) {
            Check.dueThrow("singer(0, " + what + ")", () -> x.singer(0, what), Check.ARGUMENT);
        }
    }
}
