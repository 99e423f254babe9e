/** Promises 10 to 14: patterns and pieces. */
public final class PatternTest {
    public static void main(String[] args) {
        counting();
        finding();
        knowing();
        inCommon();
        sungMost();
        Check.end();
    }

    private static int countOf(SongChoir x, String text) {
        return Check.text(x, text).count();
    }

    private static void counting() {
        SongChoir x = Check.withVerses("abab", "aba");
        Check.due("promise 10: a", countOf(x, "a"), 4);
        Check.due("promise 10: aba overlaps itself", countOf(x, "aba"), 3);
        Check.due("promise 10: across the verses", countOf(x, "baba"), 2);
        Check.due("promise 10: the whole song", countOf(x, "abababa"), 1);
        Check.due("promise 10: longer than the song", countOf(x, "abababab"), 0);
        Check.due("promise 10: not at all", countOf(x, "bb"), 0);
        Check.due("promise 10: without a song", countOf(new SongChoir(), "a"), 0);
        SongChoir y = Check.withVerses("aaaaaaaaaaaa", "aaaaaaaaaaaa", "aaaaaaaaaaaa", "aaaaaaaaaaaa");
        Check.due("promise 10: 40 letters", countOf(y, "a".repeat(40)), 9);
        SongChoir z = Check.withVerses("ab", "cab");
        z.forget();
        Check.due("promise 10: of cab alone", countOf(z, "ba"), 0);
        Check.due("promise 10: once now", countOf(z, "ab"), 1);
        Check.dueThrow("promise 10: the empty text", Check.text(x, "")::count, Check.STATE);
        Check.dueThrow("promise 10: no pattern", Check.text(x, "abi")::count, Check.STATE);
    }

    private static void finding() {
        SongChoir x = Check.text(Check.withVerses("abab", "aba"), "aba");
        int[] places = {0, 2, 4, -1, -1};
        for (int k = 0; k < places.length; k++) {
            Check.due("promise 11: placeOf(" + k + ")", x.placeOf(k), places[k]);
        }
        Check.due("promise 11: by far not so often", x.placeOf(Integer.MAX_VALUE), -1);
        Check.dueThrow("promise 11: placeOf(-1)", () -> x.placeOf(-1), Check.ARGUMENT);
        Check.text(x, "a?");
        Check.dueThrow("promise 11: no pattern", () -> x.placeOf(0), Check.STATE);
        Check.dueThrow("promise 11: neither", () -> x.placeOf(-1), Check.ARGUMENT);
        Check.due("promise 11: at the last place", Check.text(x, "ba").placeOf(2), 5);
    }

    private static void knowing() {
        SongChoir x = Check.withVerses("abc", "abd");
        Check.due("promise 12: at place 0", Check.text(x, "abc").known(), 3);
        Check.due("promise 12: all of it", Check.text(x, "abd").known(), 3);
        Check.due("promise 12: the better of two places", Check.text(x, "abde").known(), 3);
        Check.due("promise 12: up to the end of the song", Check.text(x, "cabdcabd").known(), 4);
        Check.due("promise 12: not the first note", Check.text(x, "eabc").known(), 0);
        Check.due("promise 12: without a song", Check.text(new SongChoir(), "a").known(), 0);
        Check.dueThrow("promise 12: no pattern", Check.text(x, "ab!")::known, Check.STATE);
        Check.dueThrow("promise 12: the empty text", Check.text(x, "")::known, Check.STATE);
    }

    private static void inCommon() {
        SongChoir x = Check.withVerses("abcde", "bcdf", "cdab", "h");
        Check.due("promise 13: bcd", x.common(0, 1), 3);
        Check.due("promise 13: ab or cd", x.common(0, 2), 2);
        Check.due("promise 13: either way round", x.common(2, 0), 2);
        Check.due("promise 13: within the verses only", x.common(1, 2), 2);
        Check.due("promise 13: with itself", x.common(0, 0), 5);
        Check.due("promise 13: nothing", x.common(0, 3), 0);
        Check.due("promise 13: not across the end of one", Check.withVerses("a", "ba", "b").common(0, 1), 1);
        SongChoir y = Check.withVerses("cab", "ab", "a", "b", "dab");
        Check.due("promise 13: behind other notes in one", y.common(0, 1), 2);
        Check.due("promise 13: or in the other one", y.common(1, 0), 2);
        Check.due("promise 13: in both", y.common(0, 4), 2);
        Check.due("promise 13: what follows a verse is not in it", y.common(1, 2), 1);
        Check.due("promise 13: of whichever", y.common(2, 1), 1);
        Check.dueThrow("promise 13: common(0, 4)", () -> x.common(0, 4), Check.BOUNDS);
        Check.dueThrow("promise 13: common(4, 0)", () -> x.common(4, 0), Check.BOUNDS);
        Check.dueThrow("promise 13: common(-1, 0)", () -> x.common(-1, 0), Check.BOUNDS);
        Check.dueThrow("promise 13: common(0, -1)", () -> x.common(0, -1), Check.BOUNDS);
    }

    private static void dueMost(SongChoir x, int length, int times, int place) {
        Check.due("promise 14: most(" + length + ", true)", x.most(length, true), times);
        Check.due("promise 14: most(" + length + ", false)", x.most(length, false), place);
    }

    private static void sungMost() {
        SongChoir x = Check.withVerses("bcb", "ca", "ba");
        // b 3 times, the others twice; bc and a are the only pieces sung twice of their length.
        dueMost(x, 1, 3, 0);
        dueMost(x, 2, 2, 0);
        // Each of length 3 once: the first one in the order of words is aba.
        dueMost(x, 3, 1, 4);
        dueMost(x, 7, 1, 0);
        dueMost(x, 8, 0, -1);
        dueMost(x, 12, 0, -1);
        dueMost(new SongChoir(), 1, 0, -1);
        // ba and ab both twice: ab is the first one, and 1 its lowest place.
        dueMost(Check.withVerses("hba", "gba", "fab", "gab"), 2, 2, 7);
        dueMost(Check.withVerses("ba", "ba", "b"), 2, 2, 1);
        dueMost(Check.withVerses("aaaaaaaaaaaa", "a"), 12, 2, 0);
        Check.dueThrow("promise 14: most(0, true)", () -> x.most(0, true), Check.ARGUMENT);
        Check.dueThrow("promise 14: most(13, false)", () -> x.most(13, false), Check.ARGUMENT);
        Check.dueThrow("promise 14: most(-1, true)", () -> x.most(-1, true), Check.ARGUMENT);
    }
}
