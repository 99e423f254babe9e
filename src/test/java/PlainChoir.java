import java.util.ArrayDeque;
import java.util.ArrayList;
import java.util.Arrays;
import java.util.Collections;
import java.util.HashMap;
import java.util.List;
import java.util.Map;
import java.util.Set;
import java.util.TreeMap;
import java.util.TreeSet;

/**
 * The document once more, by strings and sorted sets and without regard to speed: what the program
 * answers is held against it. It shares no line of thought with the program where that is possible.
 */
final class PlainChoir {
    private static final class State {
        final List<String> verses = new ArrayList<>();
        int singers = 1;
        int age = 0;
        int handed = 0;
        int sung = 0;

        State copy() {
            State s = new State();
            s.verses.addAll(verses);
            s.singers = singers;
            s.age = age;
            s.handed = handed;
            s.sung = sung;
            return s;
        }

        String song() {
            return String.join("", verses);
        }

        List<String> suffixes() {
            List<String> all = new ArrayList<>();
            String song = song();
            for (int i = 0; i < song.length(); i++) {
                all.add(song.substring(i));
            }
            Collections.sort(all);
            return all;
        }

        /** From the number that a note has had since the beginning to the singer that keeps it. */
        Map<Integer, Integer> keepers() {
            Map<Integer, Integer> keepers = new HashMap<>();
            List<String> suffixes = suffixes();
            int n = suffixes.size();
            for (int s = 0; s < singers; s++) {
                for (int rank = s * n / singers; rank <= (s + 1) * n / singers - 1; rank++) {
                    keepers.put(age + n - suffixes.get(rank).length(), s);
                }
            }
            return keepers;
        }

        int handedSince(Map<Integer, Integer> before) {
            int moved = 0;
            for (Map.Entry<Integer, Integer> now : keepers().entrySet()) {
                Integer earlier = before.get(now.getKey());
                if (earlier != null && !earlier.equals(now.getValue())) {
                    moved++;
                }
            }
            handed += moved;
            return moved;
        }

        void dropFirst() {
            age += verses.remove(0).length();
        }

        int addVerse(String verse) {
            Map<Integer, Integer> before = keepers();
            verses.add(verse);
            sung++;
            while (song().length() > 48) {
                dropFirst();
            }
            return handedSince(before);
        }

        int dropOldest() {
            Map<Integer, Integer> before = keepers();
            dropFirst();
            return handedSince(before);
        }

        int changeSingers(int k) {
            Map<Integer, Integer> before = keepers();
            singers = k;
            return handedSince(before);
        }

        Set<String> pieces() {
            Set<String> pieces = new TreeSet<>();
            String song = song();
            for (int i = 0; i < song.length(); i++) {
                for (int j = i + 1; j <= song.length(); j++) {
                    pieces.add(song.substring(i, j));
                }
            }
            return pieces;
        }

        /** Two places of the same piece: the longest ones there are. */
        int longestRepeat() {
            String song = song();
            int longest = 0;
            for (int i = 0; i < song.length(); i++) {
                for (int j = i + 1; j <= song.length(); j++) {
                    if (j - i > longest && isRepeat(song.substring(i, j))) {
                        longest = j - i;
                    }
                }
            }
            return longest;
        }

        boolean isRepeat(String piece) {
            return song().indexOf(piece) != song().lastIndexOf(piece);
        }

        int placeOfLongestRepeat() {
            int length = longestRepeat();
            String song = song();
            for (int i = 0; length > 0 && i + length <= song.length(); i++) {
                if (isRepeat(song.substring(i, i + length))) {
                    return i;
                }
            }
            return -1;
        }

        int mostSung(int length, boolean times) {
            TreeMap<String, List<Integer>> places = new TreeMap<>();
            String song = song();
            for (int i = 0; i + length <= song.length(); i++) {
                places.computeIfAbsent(song.substring(i, i + length), p -> new ArrayList<>()).add(i);
            }
            int most = 0;
            int place = -1;
            for (List<Integer> ofPiece : places.values()) {
                if (ofPiece.size() > most) {
                    most = ofPiece.size();
                    place = ofPiece.get(0);
                }
            }
            return times ? most : place;
        }
    }

    private String text = "";
    private State now = new State();
    private final ArrayDeque<State> remembered = new ArrayDeque<>();
    private final State[] slots = new State[2];

    static PlainChoir withVerses(String... verses) {
        PlainChoir plain = new PlainChoir();
        for (String verse : verses) {
            plain.text = verse;
            plain.sing();
        }
        return plain;
    }

    private static void refuseIf(boolean wrong, RuntimeException e) {
        if (wrong) {
            throw e;
        }
    }

    private static RuntimeException argument() {
        return new IllegalArgumentException();
    }

    private static RuntimeException bounds() {
        return new IndexOutOfBoundsException();
    }

    private static RuntimeException state() {
        return new IllegalStateException();
    }

    private static int shared(String a, String b) {
        int i = 0;
        while (i < a.length() && i < b.length() && a.charAt(i) == b.charAt(i)) {
            i++;
        }
        return i;
    }

    private boolean isPattern() {
        return text.matches("[a-h]+");
    }

    private boolean canSing() {
        return text.matches("[a-h]{1,12}");
    }

    private void remember() {
        remembered.addLast(now.copy());
        if (remembered.size() > 14) {
            remembered.removeFirst();
        }
    }

    int append(int c) {
        refuseIf(c < 0 || c > 255, argument());
        refuseIf(text.length() >= 40, state());
        text += (char) c;
        return text.length();
    }

    int clearText() {
        int n = text.length();
        text = "";
        return n;
    }

    int errorPosition() {
        return isPattern() ? -1 : text.replaceFirst("(?s)^([a-h]*).*$", "$1").length();
    }

    int about(int what) {
        refuseIf(what < 0 || what > 8, argument());
        int[] all = {now.song().length(), now.verses.size(), now.singers, now.age, now.pieces().size(),
            now.longestRepeat(), now.placeOfLongestRepeat(), now.handed, now.sung};
        return all[what];
    }

    int note(int i, int what) {
        String song = now.song();
        refuseIf(i < 0 || i >= song.length(), bounds());
        refuseIf(what < 0 || what > 4, argument());
        List<String> suffixes = now.suffixes();
        int rank = suffixes.indexOf(song.substring(i));
        int verse = 0;
        for (int end = now.verses.get(0).length(); end <= i; end += now.verses.get(verse).length()) {
            verse++;
        }
        int ahead = rank == 0 ? 0 : shared(suffixes.get(rank - 1), suffixes.get(rank));
        int[] all = {song.charAt(i), rank, verse, now.keepers().get(now.age + i), ahead};
        return all[what];
    }

    int suffix(int rank) {
        refuseIf(rank < 0, argument());
        List<String> suffixes = now.suffixes();
        return rank >= suffixes.size() ? -1 : suffixes.size() - suffixes.get(rank).length();
    }

    int verse(int v, int what) {
        refuseIf(v < 0 || v >= now.verses.size(), bounds());
        refuseIf(what < 0 || what > 2, argument());
        String verse = now.verses.get(v);
        int longest = 0;
        for (int i = 0; i < verse.length(); i++) {
            for (int j = i + 1; j <= verse.length(); j++) {
                if (now.isRepeat(verse.substring(i, j))) {
                    longest = Math.max(longest, j - i);
                }
            }
        }
        int[] all = {String.join("", now.verses.subList(0, v)).length(), verse.length(), longest};
        return all[what];
    }

    int singer(int s, int what) {
        refuseIf(s < 0 || s >= now.singers, bounds());
        refuseIf(what < 0 || what > 2, argument());
        List<String> suffixes = now.suffixes();
        int from = s * suffixes.size() / now.singers;
        int to = (s + 1) * suffixes.size() / now.singers;
        String common = from == to ? "" : suffixes.get(from);
        for (String suffix : suffixes.subList(from, to)) {
            common = common.substring(0, shared(common, suffix));
        }
        int[] all = {from, to - from, common.length()};
        return all[what];
    }

    private List<Integer> placesOfText() {
        List<Integer> places = new ArrayList<>();
        for (int i = now.song().indexOf(text); i >= 0; i = now.song().indexOf(text, i + 1)) {
            places.add(i);
        }
        return places;
    }

    int count() {
        refuseIf(!isPattern(), state());
        return placesOfText().size();
    }

    int placeOf(int k) {
        refuseIf(k < 0, argument());
        refuseIf(!isPattern(), state());
        List<Integer> places = placesOfText();
        return k < places.size() ? places.get(k) : -1;
    }

    int known() {
        refuseIf(!isPattern(), state());
        int n = text.length();
        while (n > 0 && !now.song().contains(text.substring(0, n))) {
            n--;
        }
        return n;
    }

    int common(int v, int w) {
        refuseIf(v < 0 || w < 0 || v >= now.verses.size() || w >= now.verses.size(), bounds());
        String one = now.verses.get(v);
        String two = now.verses.get(w);
        int longest = 0;
        for (int i = 0; i < one.length(); i++) {
            for (int j = i + 1; j <= one.length(); j++) {
                if (two.contains(one.substring(i, j))) {
                    longest = Math.max(longest, j - i);
                }
            }
        }
        return longest;
    }

    int most(int length, boolean times) {
        refuseIf(length < 1 || length > 12, argument());
        return now.mostSung(length, times);
    }

    int sing() {
        refuseIf(!canSing(), state());
        remember();
        return now.addVerse(text);
    }

    int again(int v) {
        refuseIf(v < 0 || v >= now.verses.size(), bounds());
        remember();
        return now.addVerse(now.verses.get(v));
    }

    int forget() {
        refuseIf(now.verses.isEmpty(), state());
        remember();
        return now.dropOldest();
    }

    int setSingers(int k) {
        refuseIf(k < 1 || k > 8, argument());
        remember();
        return now.changeSingers(k);
    }

    int undo() {
        refuseIf(remembered.isEmpty(), state());
        now = remembered.removeLast();
        return remembered.size();
    }

    int wouldRepeat() {
        if (!canSing()) {
            return -1;
        }
        State s = now.copy();
        s.addVerse(text);
        return s.longestRepeat();
    }

    int bestSingers() {
        if (!canSing()) {
            return -1;
        }
        int[] handed = new int[9];
        for (int k = 1; k <= 8; k++) {
            State s = now.copy();
            s.changeSingers(k);
            handed[k] = s.addVerse(text);
        }
        int fewest = Arrays.stream(handed, 1, 9).min().getAsInt();
        int k = 8;
        while (handed[k] != fewest) {
            k--;
        }
        return k;
    }

    int bestAgain() {
        int best = -1;
        int most = -1;
        for (int v = 0; v < now.verses.size(); v++) {
            State s = now.copy();
            s.addVerse(s.verses.get(v));
            if (s.pieces().size() > most) {
                most = s.pieces().size();
                best = v;
            }
        }
        return best;
    }

    int runScript(int n, long script) {
        refuseIf(n < 1 || n > 3, argument());
        refuseIf(script < 0 || Long.toString(script).length() > 5 * n, argument());
        String digits = "0".repeat(5 * n - Long.toString(script).length()) + script;
        State s = now.copy();
        for (int i = 0; i < n; i++) {
            if (!succeeds(s, digits.substring(5 * i, 5 * i + 5))) {
                return i;
            }
        }
        return -1;
    }

    private static boolean succeeds(State s, String d) {
        int two = Integer.parseInt(d.substring(1, 3));
        int nn = Integer.parseInt(d.substring(3));
        int xyz = Integer.parseInt(d.substring(2));
        if (d.matches("1..00")) {
            if (two >= s.verses.size()) {
                return false;
            }
            s.addVerse(s.verses.get(two));
            return true;
        }
        if (d.matches("20000")) {
            if (s.verses.isEmpty()) {
                return false;
            }
            s.dropOldest();
            return true;
        }
        if (d.matches("3[1-8]000")) {
            s.changeSingers(d.charAt(1) - '0');
            return true;
        }
        if (d.matches("4[1-8]{1,4}0*")) {
            StringBuilder verse = new StringBuilder();
            for (char c : d.substring(1).replace("0", "").toCharArray()) {
                verse.append("abcdefgh".charAt(c - '1'));
            }
            s.addVerse(verse.toString());
            return true;
        }
        return d.matches("500..") && s.longestRepeat() >= nn
            || d.matches("60...") && s.pieces().size() >= xyz
            || d.matches("700..") && s.song().length() >= nn
            || d.matches("8(0[1-9]|1[0-2])..") && s.mostSung(two, true) >= nn
            || d.matches("90...") && s.handed <= xyz;
    }

    int simulate(long seed, int m) {
        refuseIf(m < 1 || m > 20, argument());
        State s = now.copy();
        long x = seed;
        int handed = 0;
        for (int i = 0; i < m; i++) {
            x = x * 6364136223846793005L + 1442695040888963407L;
            int r = (int) (x >>> 33);
            int n = s.verses.size();
            if (r % 4 == 0 && n != 0) {
                handed += s.addVerse(s.verses.get(r / 8 % n));
            } else {
                int[] notes = {r / 64 % 3, r / 256 % 3, r / 1024 % 3, r / 4096 % 3};
                StringBuilder verse = new StringBuilder();
                for (int j = 0; j < 1 + r / 8 % 4; j++) {
                    verse.append((char) ('a' + notes[j]));
                }
                handed += s.addVerse(verse.toString());
            }
        }
        return 1000 * s.longestRepeat() + (handed > 999 ? 999 : handed);
    }

    int save(int slot) {
        refuseIf(slot != 0 && slot != 1, bounds());
        slots[slot] = now.copy();
        return now.song().length();
    }

    int restore(int slot) {
        refuseIf(slot != 0 && slot != 1, bounds());
        refuseIf(slots[slot] == null, state());
        now = slots[slot].copy();
        remembered.clear();
        return now.song().length();
    }
}
