/** The edges that the document names in promises 10 to 14: a test for each sentence. */
public final class PatternEdgeTest {
    private static final String A12 = "a".repeat(12);
    private static final String A40 = "a".repeat(40);
    private static final int[] FAR = {Integer.MIN_VALUE, -1, 48, Integer.MAX_VALUE};
    private static final String[] NO_PATTERNS = {"", "?", "ab?", "`", "i", "A", "a\u0000", "a\u00ff",
        "a".repeat(39) + "?"};

    public static void main(String[] args) {
        promises10To12();
        promise13();
        promise14();
        Check.end();
    }

    private static void promises10To12() {
        Check.edge("promise 10", "Returns how often it is sung", PatternEdgeTest::timesFrom0);
        Check.edge("promise 10", "Throws IllegalStateException if the text is not a pattern",
            PatternEdgeTest::countOfNoPattern);
        Check.edge("promise 11", "k: 0 or more", PatternEdgeTest::firstAndLastTime);
        Check.edge("promise 11", "for the k-th time, from 0, ascending", PatternEdgeTest::ascending);
        Check.edge("promise 11", "NONE if it is not sung so often", PatternEdgeTest::notSoOften);
        Check.edge("promise 11", "Throws IllegalArgumentException if k is negative", PatternEdgeTest::negativeTimes);
        Check.edge("promise 11", "Throws IllegalStateException if the text is not a pattern",
            PatternEdgeTest::placeOfNoPattern);
        Check.edge("promise 12", "the greatest number of notes at the beginning of the pattern",
            PatternEdgeTest::greatestNumberKnown);
        Check.edge("promise 12", "(0 if not even the first one is)", PatternEdgeTest::firstNoteNotKnown);
        Check.edge("promise 12", "Throws IllegalStateException if the text is not a pattern",
            PatternEdgeTest::knownOfNoPattern);
    }

    private static void promise13() {
        String where = "promise 13";
        Check.edge(where, "Tells what two verses have in common", PatternEdgeTest::sameVerse);
        Check.edge(where, "the longest row of notes that is in both verses as a whole",
            PatternEdgeTest::inBothAsAWhole);
        Check.edge(where, "(0 without one)", PatternEdgeTest::nothingInCommon);
        Check.edge(where, "Throws IndexOutOfBoundsException if there is no such verse",
            PatternEdgeTest::noSuchVerse);
    }

    private static void promise14() {
        String where = "promise 14";
        Check.edge(where, "length: 1 to 12", PatternEdgeTest::lengths1To12);
        Check.edge(where, "times: whether it is told how often", PatternEdgeTest::timesOrPlace);
        Check.edge(where, "the first one in the order of words of these", PatternEdgeTest::firstOfThese);
        Check.edge(where, "the lowest place at which the first one in the order of words of these begins",
            PatternEdgeTest::lowestPlace);
        Check.edge(where, "0, or NONE, if the song is shorter", PatternEdgeTest::shorterSong);
        Check.edge(where, "Throws IllegalArgumentException if length is out of range",
            PatternEdgeTest::lengthOutOfRange);
    }

    private static int countOf(SongChoir x, String text) {
        return Check.text(x, text).count();
    }

    private static void timesFrom0() {
        Check.due("in a new object", countOf(new SongChoir(), "a"), 0);
        Check.due("behind the last verse", countOf(Check.emptiedSong(), "a"), 0);
        SongChoir x = Check.withVerses(A12, A12, A12, A12);
        Check.due("a note 48 times", countOf(x, "a"), 48);
        Check.due("a note that is not there", countOf(x, "b"), 0);
        Check.due("40 notes", countOf(x, A40), 9);
        SongChoir y = Check.withVerses("ab", "ab");
        Check.due("as long as the song", countOf(y, "abab"), 1);
        Check.due("longer than the song", countOf(y, "ababa"), 0);
        Check.due("at the first place and at the last one", countOf(y, "ab"), 2);
        Check.due("at the last place alone", countOf(Check.withVerses("ab", "c"), "c"), 1);
        y.forget();
        Check.due("once, when one of two is forgotten", countOf(y, "ab"), 1);
        Check.due("longer than the song, but not than that of before", countOf(y, "aba"), 0);
    }

    private static void countOfNoPattern() {
        for (String text : NO_PATTERNS) {
            SongChoir x = Check.withVerses("ab");
            Check.dueThrow("of " + text.length() + " characters", () -> countOf(x, text), Check.STATE);
        }
    }

    private static void firstAndLastTime() {
        SongChoir x = Check.text(Check.withVerses(A12, A12, A12, A12), "a");
        Check.due("placeOf(0)", x.placeOf(0), 0);
        Check.due("placeOf(47)", x.placeOf(47), 47);
        Check.due("of the only time", Check.text(Check.withVerses("ba"), "a").placeOf(0), 1);
    }

    private static void ascending() {
        SongChoir x = Check.text(Check.withVerses("aba", "ba", "ab"), "aba");
        // The order of the suffixes is another one: the later place has the lower rank.
        int[] places = {0, 2};
        for (int k = 0; k < places.length; k++) {
            Check.due("placeOf(" + k + ")", x.placeOf(k), places[k]);
        }
        SongChoir y = Check.text(Check.withVerses("aaaa"), "aa");
        for (int k = 0; k < 3; k++) {
            Check.due("overlapping, placeOf(" + k + ")", y.placeOf(k), k);
        }
    }

    private static void notSoOften() {
        SongChoir x = Check.text(Check.withVerses("ab", "ab"), "ab");
        Check.due("the last time", x.placeOf(1), 2);
        Check.due("once more", x.placeOf(2), -1);
        Check.due("by far more", x.placeOf(Integer.MAX_VALUE), -1);
        Check.due("not at all", Check.text(x, "ba").placeOf(1), -1);
        Check.due("longer than the song", Check.text(x, "ababa").placeOf(0), -1);
        Check.due("in a new object", Check.text(new SongChoir(), "a").placeOf(0), -1);
        Check.due("behind the last verse", Check.text(Check.emptiedSong(), "a").placeOf(0), -1);
        SongChoir y = Check.text(Check.withVerses(A12, A12, A12, A12), "a");
        Check.due("the 49th of 48 times", y.placeOf(48), -1);
    }

    private static void negativeTimes() {
        SongChoir x = Check.text(Check.withVerses("ab"), "a");
        Check.dueThrow("placeOf(-1)", () -> x.placeOf(-1), Check.ARGUMENT);
        Check.dueThrow("the least number", () -> x.placeOf(Integer.MIN_VALUE), Check.ARGUMENT);
        x.clearText();
        Check.dueThrow("without a text too", () -> x.placeOf(-1), Check.ARGUMENT);
    }

    private static void placeOfNoPattern() {
        SongChoir x = Check.withVerses("ab");
        Check.dueThrow("of an empty text", () -> Check.text(x, "").placeOf(0), Check.STATE);
        Check.dueThrow("of another character", () -> Check.text(x, "ab?").placeOf(0), Check.STATE);
        Check.dueThrow("also where it is not sung", () -> x.placeOf(Integer.MAX_VALUE), Check.STATE);
    }

    private static void greatestNumberKnown() {
        SongChoir x = Check.withVerses("abc", "abd");
        Check.due("all of it", Check.text(x, "abd").known(), 3);
        Check.due("all but the last one", Check.text(x, "abda").known(), 3);
        Check.due("the first one alone", Check.text(x, "bb").known(), 1);
        Check.due("the whole song and one more", Check.text(x, "abcabda").known(), 6);
        Check.due("the end of the song and one more", Check.text(x, "bdd").known(), 2);
        SongChoir y = Check.withVerses(A12, A12, A12, A12);
        Check.due("40 notes", Check.text(y, A40).known(), 40);
        Check.due("39 of 40 notes", Check.text(y, "a".repeat(39) + "b").known(), 39);
    }

    private static void firstNoteNotKnown() {
        SongChoir x = Check.withVerses("abc");
        Check.due("the others are", Check.text(x, "dabc").known(), 0);
        Check.due("in a new object", Check.text(new SongChoir(), "a").known(), 0);
        Check.due("behind the last verse", Check.text(Check.emptiedSong(), "a").known(), 0);
    }

    private static void knownOfNoPattern() {
        SongChoir x = Check.withVerses("ab");
        Check.dueThrow("of an empty text", () -> Check.text(x, "").known(), Check.STATE);
        Check.dueThrow("of another character, behind those that are known",
            () -> Check.text(x, "ab?").known(), Check.STATE);
    }

    private static void sameVerse() {
        SongChoir x = Check.withVerses("a", A12, "abcdefghabcd");
        Check.due("a verse of 1 note with itself", x.common(0, 0), 1);
        Check.due("a verse of 12 notes with itself", x.common(2, 2), 12);
        Check.due("and one of 12 notes alike", x.common(1, 1), 12);
        Check.due("of the first and the last one", x.common(0, 2), 1);
        Check.due("of the last and the first one", x.common(2, 0), 1);
    }

    private static void inBothAsAWhole() {
        SongChoir x = Check.withVerses("ha", "b", "ga", "b");
        Check.due("ab is in none of them as a whole", x.common(0, 2), 1);
        SongChoir y = Check.withVerses("ab", "ca", "b", "cab");
        Check.due("ab goes on behind ca", y.common(0, 1), 1);
        Check.due("also when ca is the first one", y.common(1, 0), 1);
        Check.due("and is in cab", y.common(0, 3), 2);
        Check.due("ca goes on with b, but not in its verse", y.common(1, 3), 2);
        Check.due("nor the other way round", y.common(3, 1), 2);
        Check.due("at its end too", y.common(3, 0), 2);
        Check.due("all of the shorter one", Check.withVerses("bab", "cbabc").common(0, 1), 3);
    }

    private static void nothingInCommon() {
        SongChoir x = Check.withVerses("abcd", "efgh", "a");
        Check.due("no note", x.common(0, 1), 0);
        Check.due("nor the other way round", x.common(1, 0), 0);
        Check.due("nor with the last verse", x.common(1, 2), 0);
    }

    private static void noSuchVerse() {
        SongChoir x = Check.withVerses("ab", "b");
        Check.due("the last one of two", x.common(1, 0), 1);
        Check.dueThrow("the first, just behind the last one", () -> x.common(2, 0), Check.BOUNDS);
        Check.dueThrow("the second, just behind the last one", () -> x.common(0, 2), Check.BOUNDS);
        for (int v : FAR) {
            Check.dueThrow("the first is " + v, () -> x.common(v, 0), Check.BOUNDS);
            Check.dueThrow("the second is " + v, () -> x.common(0, v), Check.BOUNDS);
            Check.dueThrow("both are " + v, () -> x.common(v, v), Check.BOUNDS);
        }
        Check.dueThrow("in a new object", () -> new SongChoir().common(0, 0), Check.BOUNDS);
        Check.dueThrow("behind the last verse", () -> Check.emptiedSong().common(0, 0), Check.BOUNDS);
    }

    private static void dueMost(String what, SongChoir x, int length, int times, int place) {
        Check.due(what + ", how often", x.most(length, true), times);
        Check.due(what + ", where", x.most(length, false), place);
    }

    private static void lengths1To12() {
        SongChoir x = Check.withVerses(A12, A12, A12, A12);
        dueMost("length 1", x, 1, 48, 0);
        dueMost("length 12", x, 12, 37, 0);
    }

    private static void timesOrPlace() {
        SongChoir x = Check.withVerses("cab", "ab");
        Check.due("most(2, true)", x.most(2, true), 2);
        Check.due("most(2, false)", x.most(2, false), 1);
    }

    private static void firstOfThese() {
        dueMost("a and b twice each", Check.withVerses("bdabea"), 1, 2, 2);
        dueMost("each piece once", Check.withVerses("cab"), 2, 1, 1);
        dueMost("b more often than a", Check.withVerses("abb"), 1, 2, 1);
        dueMost("the last one in the order is the only one twice", Check.withVerses("ahhch"), 1, 3, 1);
    }

    private static void lowestPlace() {
        // Of the three a, the last one has rank 0, and the first one the greatest rank.
        dueMost("a at 0, 1 and 3", Check.withVerses("aa", "ba"), 1, 3, 0);
        dueMost("a at 1, 3 and 5", Check.withVerses("ba", "ba", "ba"), 1, 3, 1);
        dueMost("ab at 1 and 4", Check.withVerses("c", "abd", "abc"), 2, 2, 1);
        dueMost("ab at 1 and 3", Check.withVerses("bab", "ab", "d"), 2, 2, 1);
    }

    private static void shorterSong() {
        dueMost("of a new object", new SongChoir(), 1, 0, -1);
        dueMost("behind the last verse", Check.emptiedSong(), 1, 0, -1);
        SongChoir x = Check.withVerses("ba");
        dueMost("as long as the song", x, 2, 1, 0);
        dueMost("one note longer", x, 3, 0, -1);
        dueMost("12 of 12 notes", Check.withVerses(A12), 12, 1, 0);
        dueMost("12 of 11 notes", Check.withVerses("a".repeat(11)), 12, 0, -1);
    }

    private static void lengthOutOfRange() {
        SongChoir x = Check.withVerses(A12, A12);
        for (boolean times : new boolean[] {true, false}) {
            Check.dueThrow("most(0, ..)", () -> x.most(0, times), Check.ARGUMENT);
            Check.dueThrow("most(13, ..)", () -> x.most(13, times), Check.ARGUMENT);
            for (int length : FAR) {
                Check.dueThrow("most(" + length + ", ..)", () -> x.most(length, times), Check.ARGUMENT);
            }
        }
        Check.dueThrow("of a new object", () -> new SongChoir().most(0, true), Check.ARGUMENT);
    }
}
