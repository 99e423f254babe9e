/** Promises 20 to 22: what would be. */
public final class WouldBeTest {
    public static void main(String[] args) {
        repeats();
        singers();
        verses();
        nothingChanges();
        Check.end();
    }

    private static void repeats() {
        SongChoir x = Check.withVerses("abcd", "e");
        Check.due("promise 20: abc once more", Check.text(x, "abc").wouldRepeat(), 3);
        Check.due("promise 20: no repeat at all", Check.text(x, "f").wouldRepeat(), 0);
        Check.due("promise 20: within the new verse", Check.text(x, "hhh").wouldRepeat(), 2);
        Check.due("promise 20: no text", Check.text(x, "").wouldRepeat(), -1);
        Check.due("promise 20: no pattern", Check.text(x, "abi").wouldRepeat(), -1);
        Check.due("promise 20: 12 notes", Check.text(x, "aaaaaaaaaaaa").wouldRepeat(), 11);
        Check.due("promise 20: 13 notes", Check.text(x, "aaaaaaaaaaaaa").wouldRepeat(), -1);
        SongChoir y = Check.withVerses("abcabcabcabc", "g", "dddddddddddd", "eeeeeeeeeeee", "f");
        Check.due("promise 20: ddd.. of 11 notes", Check.text(y, "h").wouldRepeat(), 11);
        Check.due("promise 20: the oldest verse would be forgotten", Check.text(y, "abcabcabcabc").wouldRepeat(), 11);
        SongChoir z = Check.withVerses("aaaaaaaaaaaa", "b", "aaaaaaaaaaaa", "hgfedcbhgfed", "cbhgfedc");
        Check.due("promise 20: now", z.about(5), 13);
        Check.due("promise 20: and behind the end of the first one", Check.text(z, "cccccc").wouldRepeat(), 13);
    }

    private static void singers() {
        Check.due("promise 21: without a song nothing moves", Check.text(new SongChoir(), "a").bestSingers(), 8);
        Check.due("promise 21: no text", new SongChoir().bestSingers(), -1);
        Check.due("promise 21: no pattern", Check.text(new SongChoir(), "x").bestSingers(), -1);
        Check.due("promise 21: 13 notes", Check.text(new SongChoir(), "a".repeat(13)).bestSingers(), -1);
        SongChoir x = Check.withVerses("aaaa");
        // New notes of the same letter push all suffixes behind, past the bounds of two singers or more.
        Check.due("promise 21: only one singer keeps all", Check.text(x, "aaaa").bestSingers(), 1);
        SongChoir y = Check.withVerses("ab");
        for (int k = 1; k <= 8; k++) {
            y.setSingers(k);
            Check.due("promise 21: behind ab, h with " + k, Check.text(y, "h").bestSingers(), bestByTrying(k));
        }
    }

    private static int bestByTrying(int singers) {
        int best = 0;
        int fewest = 100;
        for (int k = 8; k >= 1; k--) {
            SongChoir x = Check.withVerses("ab");
            x.setSingers(singers);
            x.setSingers(k);
            int handed = Check.sing(x, "h");
            if (handed < fewest) {
                fewest = handed;
                best = k;
            }
        }
        return best;
    }

    private static void verses() {
        Check.due("promise 22: without verses", new SongChoir().bestAgain(), -1);
        Check.due("promise 22: the only one", Check.withVerses("a").bestAgain(), 0);
        Check.due("promise 22: the smallest of two alike", Check.withVerses("ab", "ab").bestAgain(), 0);
        Check.due("promise 22: the longer one", Check.withVerses("a", "bcd").bestAgain(), 1);
        Check.due("promise 22: the first of two long ones", Check.withVerses("h", "abcde", "g").bestAgain(), 1);
        SongChoir x = Check.withVerses("aaaaaaaaaaaa", "abcdefghabcd", "hgfedcbahgfe", "aabbccddeeff");
        // Each new verse costs verse 0; by verse 0 itself, sung again, nothing would be lost.
        int best = -1;
        int most = -1;
        for (int v = 0; v < 4; v++) {
            x.again(v);
            if (x.about(4) > most) {
                most = x.about(4);
                best = v;
            }
            x.undo();
        }
        Check.due("promise 22: with verses that would be forgotten", x.bestAgain(), best);
    }

    private static void nothingChanges() {
        SongChoir x = Check.text(Check.withVerses("cab", "bage"), "abba");
        x.setSingers(3);
        String before = Check.picture(x);
        x.wouldRepeat();
        x.bestSingers();
        x.bestAgain();
        Check.same("promises 20 to 22: nothing is changed", Check.picture(x), before);
        Check.due("promises 20 to 22: nothing is remembered", x.undo(), 2);
        Check.due("promises 20 to 22: the text stays", x.clearText(), 4);
    }
}
