/** The edges that the document names in promises 20 to 22: a test for each sentence. */
public final class WouldBeEdgeTest {
    private static final String A12 = "a".repeat(12);
    private static final String[] CAN_NOT_BE_SUNG = {"", "?", "i", "`", "ab?", "abcdefghabc?", "a".repeat(13),
        "a".repeat(40)};

    public static void main(String[] args) {
        Check.edge("promise 20", "Returns what about(5) would be behind sing()", WouldBeEdgeTest::shortestAndLongest);
        Check.edge("promise 20", "Returns what about(5) would be behind sing()", WouldBeEdgeTest::behindForgetting);
        Check.edge("promise 20", "NONE if that is not possible", WouldBeEdgeTest::repeatOfNoVerse);
        Check.edge("promise 21", "Returns the number of singers, 1 to 8", WouldBeEdgeTest::eachNumberOfSingers);
        Check.edge("promise 21", "if there were so many already (those that come by this number itself do not count)",
            WouldBeEdgeTest::ifThereWereSoManyAlready);
        Check.edge("promise 21", "among several the greatest", WouldBeEdgeTest::greatestNumberOfSingers);
        Check.edge("promise 21", "NONE if sing() is not possible", WouldBeEdgeTest::singersOfNoVerse);
        Check.edge("promise 22", "Returns the verse v behind again(v) of which the number of different pieces",
            WouldBeEdgeTest::firstOrLastVerse);
        Check.edge("promise 22", "Returns the verse v behind again(v) of which the number of different pieces",
            WouldBeEdgeTest::piecesBehindForgetting);
        Check.edge("promise 22", "among several the smallest number", WouldBeEdgeTest::smallestNumberOfVerse);
        Check.edge("promise 22", "NONE without verses", WouldBeEdgeTest::withoutVerses);
        Check.end();
    }

    private static int repeat(SongChoir x, String text) {
        return Check.text(x, text).wouldRepeat();
    }

    private static void shortestAndLongest() {
        Check.due("a note of a new object", repeat(new SongChoir(), "a"), 0);
        Check.due("12 notes of a new object", repeat(new SongChoir(), A12), 11);
        Check.due("a note that is there", repeat(Check.withVerses("ba"), "a"), 1);
        Check.due("a note that is not there", repeat(Check.withVerses("ba"), "c"), 0);
        Check.due("48 notes alike", repeat(Check.withVerses(A12, A12, A12), A12), 47);
        Check.due("and once more", repeat(Check.withVerses(A12, A12, A12, A12), A12), 47);
    }

    private static void behindForgetting() {
        SongChoir x = Check.withVerses("hgfedcbahgfe", "aabbccddeeff", "hgfedcbahgfe", "bdfhaceg");
        Check.due("44 notes, with the same verse twice", x.about(5), 12);
        Check.due("48 notes, and still twice", repeat(x, "cccc"), 12);
        // With 49, only hgfe is left of what was the same.
        Check.due("49 notes, and no more", repeat(x, "ccccc"), 4);
        Check.sing(x, "ccccc");
        Check.due("so it is", x.about(5), 4);
    }

    private static void repeatOfNoVerse() {
        SongChoir x = Check.withVerses("aa");
        for (String text : CAN_NOT_BE_SUNG) {
            Check.due("of " + text.length() + " characters", repeat(x, text), -1);
        }
        Check.due("of 12 letters", repeat(x, A12), 13);
        Check.due("of one letter", repeat(x, "b"), 1);
    }

    private static int singers(SongChoir x, String text) {
        return Check.text(x, text).bestSingers();
    }

    private static void eachNumberOfSingers() {
        String[] songs = {"a", "a", "a", "ab", "ab", "aab", "aab", "a"};
        String[] texts = {"b", "ba", "baa", "b", "aab", "ab", "ba", "a"};
        for (int k = 1; k <= 8; k++) {
            String told = songs[k - 1] + ", then " + texts[k - 1];
            Check.due(told, singers(Check.withVerses(songs[k - 1]), texts[k - 1]), k);
        }
    }

    private static void ifThereWereSoManyAlready() {
        for (int k = 1; k <= 8; k++) {
            SongChoir x = Check.withVerses("a");
            x.setSingers(k);
            Check.due("with " + k + ", a once more", singers(x, "a"), 8);
            Check.due("with " + k + ", b behind it", singers(x, "b"), 1);
            Check.due("singers", x.about(2), k);
        }
    }

    private static void greatestNumberOfSingers() {
        Check.due("no note to hand over, with whatever singers", singers(new SongChoir(), A12), 8);
        Check.due("of a song that is replaced by its like", singers(Check.fullSong(), A12), 8);
        // Of 1 to 8 singers, handed over would be 0, 0, 0, 1, 2, 0, 1 and 2.
        Check.due("of 1, 2, 3 and 6", singers(Check.withVerses("aab"), "ab"), 6);
        // 0, 1, 0, 1, 0, 1, 1 and 1.
        Check.due("of 1, 3 and 5", singers(Check.withVerses("ab"), "aab"), 5);
    }

    private static void singersOfNoVerse() {
        SongChoir x = Check.withVerses("aa");
        for (String text : CAN_NOT_BE_SUNG) {
            Check.due("of " + text.length() + " characters", singers(x, text), -1);
        }
        Check.due("of 12 letters", singers(new SongChoir(), A12), 8);
    }

    private static void firstOrLastVerse() {
        Check.due("the only one", Check.withVerses("a").bestAgain(), 0);
        Check.due("the first one", Check.withVerses("bcd", "a").bestAgain(), 0);
        Check.due("the last one", Check.withVerses("a", "bcd").bestAgain(), 1);
        SongChoir x = new SongChoir();
        for (int i = 0; i < 48; i++) {
            Check.text(x, i == 0 ? "b" : "a").sing();
        }
        // Each verse makes b forgotten; b alone comes back, at the end.
        Check.due("the first one of 48", x.bestAgain(), 0);
    }

    private static void piecesBehindForgetting() {
        SongChoir x = Check.withVerses(A12, "abcdefghabcd", "abcdefghabcd", "efgh");
        // Pieces behind each: 631, 532, 532 and 788. Those of 12 notes make 12 others forgotten.
        Check.due("the one with which nothing is forgotten", x.bestAgain(), 3);
        SongChoir y = Check.fullSong();
        // 912, 900, 900 and 768: the first verse makes room for itself.
        Check.due("the one that is forgotten itself", y.bestAgain(), 0);
    }

    private static void smallestNumberOfVerse() {
        Check.due("two alike", Check.withVerses("ab", "ab").bestAgain(), 0);
        Check.due("two others, with as many pieces", Check.withVerses("h", "abc", "def").bestAgain(), 1);
        SongChoir x = Check.withVerses("abcdabcdabcd", "bbbb", "abcdefghabcd", "gfed", "gfed", "efgh", "hh");
        // 801, 973, 769, 973, 973, 973 and 885.
        Check.due("1, 3, 4 or 5", x.bestAgain(), 1);
    }

    private static void withoutVerses() {
        SongChoir x = new SongChoir();
        Check.due("a new object", x.bestAgain(), -1);
        Check.sing(x, "ab");
        Check.due("a text that can be sung does not count", x.bestAgain(), 0);
        x.forget();
        Check.due("behind the last verse", x.bestAgain(), -1);
    }
}
