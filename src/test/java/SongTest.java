/**
 * Promises 5 to 9. Most of it is about "cabbage", whose suffixes are in this order:
 * abbage (place 1), age (4), bage (3), bbage (2), cabbage (0), e (6), ge (5).
 */
public final class SongTest {
    public static void main(String[] args) {
        numbers();
        countedNumbers();
        longestRepeats();
        places();
        prefixesComeFirst();
        suffixes();
        verses();
        singers();
        idleSingers();
        Check.end();
    }

    private static void numbers() {
        SongChoir x = Check.withVerses("cab", "bage");
        Check.due("promise 5: notes", x.about(0), 7);
        Check.due("promise 5: verses", x.about(1), 2);
        Check.due("promise 5: singers", x.about(2), 1);
        Check.due("promise 5: age", x.about(3), 0);
        Check.due("promise 5: 28 pieces, of which a and b come twice", x.about(4), 26);
        Check.due("promise 5: longest repeat", x.about(5), 1);
        Check.due("promise 5: its lowest place is that of a", x.about(6), 1);
        Check.due("promise 5: handed over", x.about(7), 0);
        Check.due("promise 5: sung", x.about(8), 2);
        Check.dueThrow("promise 5: about(9)", () -> x.about(9), Check.ARGUMENT);
        Check.dueThrow("promise 5: about(-1)", () -> x.about(-1), Check.ARGUMENT);
        Check.dueThrow("promise 5: about(greatest)", () -> x.about(Integer.MAX_VALUE), Check.ARGUMENT);
    }

    private static void countedNumbers() {
        SongChoir x = Check.withVerses("cab", "bage");
        x.setSingers(3);
        Check.due("promise 5: the first two of the order stay with singer 0", x.about(7), 5);
        x.setSingers(2);
        Check.due("promise 5: ranks 2, 4, 5 and 6 come on top", x.about(7), 9);
        x.forget();
        Check.due("promise 5: age behind forget", x.about(3), 3);
        Check.due("promise 5: forget sings nothing", x.about(8), 2);
        x.again(0);
        Check.due("promise 5: again does", x.about(8), 3);
        for (int i = 0; i < 4; i++) {
            Check.sing(x, "hhhhhhhhhhhh");
        }
        Check.due("promise 5: notes are at most 48", x.about(0), 48);
        Check.due("promise 5: age behind old verses that had to go", x.about(3), 11);
        Check.due("promise 5: sung counts what is forgotten", x.about(8), 7);
    }

    private static void longestRepeats() {
        SongChoir x = Check.withVerses("abcdefgh");
        Check.due("promise 5: no repeat has length", x.about(5), 0);
        Check.due("promise 5: no repeat has a place", x.about(6), -1);
        SongChoir y = Check.withVerses("aaaa");
        Check.due("promise 5: repeats may overlap", y.about(5), 3);
        Check.due("promise 5: and begin at the lowest place", y.about(6), 0);
        Check.due("promise 5: pieces of one letter", y.about(4), 4);
        SongChoir z = Check.withVerses("hba", "gba", "fed", "fed");
        Check.due("promise 5: a repeat across verses", z.about(5), 3);
        Check.due("promise 5: the shorter one ahead does not count", z.about(6), 6);
        SongChoir w = Check.withVerses("bc", "ab", "cab", "g", "ab");
        Check.due("promise 5: bcab is sung at 0 and at 3", w.about(5), 4);
        Check.due("promise 5: and its lowest place is 0", w.about(6), 0);
    }

    private static void places() {
        SongChoir x = Check.withVerses("cab", "bage");
        x.setSingers(3);
        int[][] rows = {
            {'c', 'a', 'b', 'b', 'a', 'g', 'e'},
            {4, 0, 3, 2, 1, 6, 5},
            {0, 0, 0, 1, 1, 1, 1},
            {2, 0, 1, 1, 0, 2, 2},
            {0, 0, 1, 0, 1, 0, 0}};
        for (int what = 0; what < rows.length; what++) {
            for (int i = 0; i < rows[what].length; i++) {
                Check.due("promise 6: note(" + i + ", " + what + ")", x.note(i, what), rows[what][i]);
            }
        }
        Check.dueThrow("promise 6: note(7, 0)", () -> x.note(7, 0), Check.BOUNDS);
        Check.dueThrow("promise 6: note(-1, 0)", () -> x.note(-1, 0), Check.BOUNDS);
        Check.dueThrow("promise 6: note(0, 5)", () -> x.note(0, 5), Check.ARGUMENT);
        Check.dueThrow("promise 6: note(0, -1)", () -> x.note(0, -1), Check.ARGUMENT);
        Check.dueThrow("promise 6: note(7, 5)", () -> x.note(7, 5), Check.BOUNDS);
        Check.dueThrow("promise 6: note(least, 0)", () -> x.note(Integer.MIN_VALUE, 0), Check.BOUNDS);
        Check.dueThrow("promise 6: without a song", () -> new SongChoir().note(0, 0), Check.BOUNDS);
    }

    private static void prefixesComeFirst() {
        SongChoir x = Check.withVerses("aaa");
        for (int i = 0; i < 3; i++) {
            Check.due("promise 6: the shorter suffix is ahead", x.note(i, 1), 2 - i);
            Check.due("promise 6: and all of it is in common", x.note(i, 4), i == 2 ? 0 : 2 - i);
        }
    }

    private static void suffixes() {
        SongChoir x = Check.withVerses("cab", "bage");
        int[] order = {1, 4, 3, 2, 0, 6, 5};
        for (int rank = 0; rank < order.length; rank++) {
            Check.due("promise 7: suffix(" + rank + ")", x.suffix(rank), order[rank]);
        }
        Check.due("promise 7: no such rank", x.suffix(7), -1);
        Check.due("promise 7: by far none", x.suffix(Integer.MAX_VALUE), -1);
        Check.dueThrow("promise 7: suffix(-1)", () -> x.suffix(-1), Check.ARGUMENT);
        x.forget();
        int[] shorter = {1, 0, 3, 2, -1, -1, -1};
        for (int rank = 0; rank < shorter.length; rank++) {
            Check.due("promise 7: of bage alone", x.suffix(rank), shorter[rank]);
        }
    }

    private static void verses() {
        SongChoir x = Check.withVerses("hab", "cdab", "e");
        int[][] rows = {{0, 3, 7}, {3, 4, 1}, {2, 2, 0}};
        for (int what = 0; what < rows.length; what++) {
            for (int v = 0; v < rows[what].length; v++) {
                Check.due("promise 8: verse(" + v + ", " + what + ")", x.verse(v, what), rows[what][v]);
            }
        }
        SongChoir y = Check.withVerses("ga", "bc", "ab", "cfh");
        Check.due("promise 8: abc is sung twice, but a alone is whole in ga", y.verse(0, 2), 1);
        Check.due("promise 8: bc begins in ab, yet lies in bc as a whole", y.verse(1, 2), 2);
        Check.due("promise 8: twice in the same verse", Check.withVerses("aaaa").verse(0, 2), 3);
        Check.dueThrow("promise 8: verse(3, 0)", () -> x.verse(3, 0), Check.BOUNDS);
        Check.dueThrow("promise 8: verse(-1, 0)", () -> x.verse(-1, 0), Check.BOUNDS);
        Check.dueThrow("promise 8: verse(0, 3)", () -> x.verse(0, 3), Check.ARGUMENT);
        Check.dueThrow("promise 8: verse(0, -1)", () -> x.verse(0, -1), Check.ARGUMENT);
        Check.dueThrow("promise 8: verse(3, 3)", () -> x.verse(3, 3), Check.BOUNDS);
        Check.dueThrow("promise 8: without a verse", () -> new SongChoir().verse(0, 0), Check.BOUNDS);
    }

    private static void singers() {
        SongChoir x = Check.withVerses("cab", "bage");
        Check.due("promise 9: the only singer has all", x.singer(0, 1), 7);
        Check.due("promise 9: which have nothing in common", x.singer(0, 2), 0);
        x.setSingers(3);
        int[][] rows = {{0, 2, 4}, {2, 2, 3}, {1, 1, 0}};
        for (int what = 0; what < rows.length; what++) {
            for (int s = 0; s < rows[what].length; s++) {
                Check.due("promise 9: singer(" + s + ", " + what + ")", x.singer(s, what), rows[what][s]);
            }
        }
        Check.dueThrow("promise 9: singer(3, 0)", () -> x.singer(3, 0), Check.BOUNDS);
        Check.dueThrow("promise 9: singer(-1, 0)", () -> x.singer(-1, 0), Check.BOUNDS);
        Check.dueThrow("promise 9: singer(0, 3)", () -> x.singer(0, 3), Check.ARGUMENT);
        Check.dueThrow("promise 9: singer(0, -1)", () -> x.singer(0, -1), Check.ARGUMENT);
        Check.dueThrow("promise 9: singer(3, 3)", () -> x.singer(3, 3), Check.BOUNDS);
    }

    private static void idleSingers() {
        SongChoir x = Check.withVerses("aab");
        x.setSingers(8);
        int[][] rows = {
            {0, 0, 0, 1, 1, 1, 2, 2},
            {0, 0, 1, 0, 0, 1, 0, 1},
            {0, 0, 3, 0, 0, 2, 0, 1}};
        for (int what = 0; what < rows.length; what++) {
            for (int s = 0; s < rows[what].length; s++) {
                Check.due("promise 9: of 8, singer(" + s + ", " + what + ")", x.singer(s, what), rows[what][s]);
            }
        }
    }
}
