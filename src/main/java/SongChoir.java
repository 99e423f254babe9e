/**
 * The suffixes of a growing song, kept sorted by a choir. ../shared/DOC.md says what each call
 * promises, ../shared/LANGUAGE.md in what part of Java this file is written.
 */
public final class SongChoir {
    public static final int NONE = -1;

    private static final int FIRST_LETTER = 97;
    private static final int LETTERS = 8;
    private static final int MOST_CODE = 255;
    private static final int MOST_TEXT = 40;
    private static final int MOST_NOTES = 48;
    private static final int LONGEST_VERSE = 12;
    private static final int MOST_SINGERS = 8;
    private static final int MOST_REMEMBERED = 14;
    private static final int SLOTS = 2;
    private static final int MOST_COMMANDS = 3;
    private static final int GROUP = 100000;
    private static final int MOST_SIMULATED = 20;
    private static final int MOST_TOLD_HANDED = 999;
    private static final long SEED_FACTOR = 6364136223846793005L;
    private static final long SEED_STEP = 1442695040888963407L;

    private final Line text;
    private final Choir present;
    // What would be is tried out on this one, so that no call has to make a choir of its own.
    private final Choir trial;
    // The verse to be sung, apart from the song, which may forget the old verse that it comes from.
    private final Line fresh;
    private final History history;
    // A slot is null until something has been saved in it.
    private final Song[] slots;

    public SongChoir() {
        text = new Line(MOST_TEXT);
        present = new Choir();
        trial = new Choir();
        fresh = new Line(LONGEST_VERSE);
        history = new History();
        slots = new Song[SLOTS];
    }

    // ---- text

    public int append(int c) throws IllegalArgumentException, IllegalStateException {
        if (c < 0 || c > MOST_CODE) {
            throw new IllegalArgumentException("no such character code");
        }
        if (text.isFull()) {
            throw new IllegalStateException("the text is full");
        }
        text.add(c);
        return text.length;
    }

    public int clearText() {
        int before = text.length;
        text.empty();
        return before;
    }

    public int errorPosition() {
        return text.firstError();
    }

    // ---- the song

    public int about(int what) throws IllegalArgumentException {
        switch (what) {
            case 0:
                return present.song.notes;
            case 1:
                return present.song.verses;
            case 2:
                return present.song.singers;
            case 3:
                return present.song.age;
            case 4:
                return present.order.pieces();
            case 5:
                return present.order.longestRepeat();
            case 6:
                return present.order.placeOfLongestRepeat();
            case 7:
                return present.song.handed;
            case 8:
                return present.song.sung;
            default:
                throw new IllegalArgumentException("no such number");
        }
    }

    public int note(int i, int what) throws IndexOutOfBoundsException, IllegalArgumentException {
        if (i < 0 || i >= present.song.notes) {
            throw new IndexOutOfBoundsException("no such place");
        }
        switch (what) {
            case 0:
                return present.song.codeAt(i);
            case 1:
                return present.order.rankOf(i);
            case 2:
                return present.song.verseAt(i);
            case 3:
                return present.keeperOf(i);
            case 4:
                return present.order.sharedWithAhead(i);
            default:
                throw new IllegalArgumentException("no such number of a place");
        }
    }

    public int suffix(int rank) throws IllegalArgumentException {
        if (rank < 0) {
            throw new IllegalArgumentException("a negative rank");
        }
        return present.order.placeAt(rank);
    }

    public int verse(int v, int what) throws IndexOutOfBoundsException, IllegalArgumentException {
        if (!present.song.hasVerse(v)) {
            throw new IndexOutOfBoundsException("no such verse");
        }
        switch (what) {
            case 0:
                return present.song.startOf(v);
            case 1:
                return present.song.lengthOf(v);
            case 2:
                return present.longestRepeatIn(v);
            default:
                throw new IllegalArgumentException("no such number of a verse");
        }
    }

    public int singer(int s, int what) throws IndexOutOfBoundsException, IllegalArgumentException {
        if (s < 0 || s >= present.song.singers) {
            throw new IndexOutOfBoundsException("no such singer");
        }
        int from = present.song.lowestRankOf(s);
        int to = present.song.lowestRankOf(s + 1);
        switch (what) {
            case 0:
                return from;
            case 1:
                return to - from;
            case 2:
                return present.order.sharedByAll(from, to);
            default:
                throw new IllegalArgumentException("no such number of a singer");
        }
    }

    // ---- patterns and pieces

    public int count() throws IllegalStateException {
        if (!text.isPattern()) {
            throw new IllegalStateException("the text is not a pattern");
        }
        int times = 0;
        for (int i = 0; i < present.song.notes; i++) {
            if (isSungAt(i)) {
                times++;
            }
        }
        return times;
    }

    public int placeOf(int k) throws IllegalArgumentException, IllegalStateException {
        if (k < 0) {
            throw new IllegalArgumentException("a negative number of times");
        }
        if (!text.isPattern()) {
            throw new IllegalStateException("the text is not a pattern");
        }
        int times = 0;
        for (int i = 0; i < present.song.notes; i++) {
            if (isSungAt(i)) {
                if (times == k) {
                    return i;
                }
                times++;
            }
        }
        return NONE;
    }

    public int known() throws IllegalStateException {
        if (!text.isPattern()) {
            throw new IllegalStateException("the text is not a pattern");
        }
        int most = 0;
        for (int i = 0; i < present.song.notes; i++) {
            most = Math.max(most, text.sharedWith(present.song, i));
        }
        return most;
    }

    private boolean isSungAt(int place) {
        return text.sharedWith(present.song, place) == text.length;
    }

    public int common(int v, int w) throws IndexOutOfBoundsException {
        if (!present.song.hasVerse(v) || !present.song.hasVerse(w)) {
            throw new IndexOutOfBoundsException("no such verse");
        }
        return present.song.longestInBoth(v, w);
    }

    public int most(int length, boolean times) throws IllegalArgumentException {
        if (length < 1 || length > LONGEST_VERSE) {
            throw new IllegalArgumentException("no such length");
        }
        return present.order.mostSung(length, times);
    }

    // ---- actions

    public int sing() throws IllegalStateException {
        if (!text.fitsVerse()) {
            throw new IllegalStateException("the text can not become a verse");
        }
        history.remember(present.song);
        fresh.takeLine(text);
        return present.addVerse(fresh);
    }

    public int again(int v) throws IndexOutOfBoundsException {
        if (!present.song.hasVerse(v)) {
            throw new IndexOutOfBoundsException("no such verse");
        }
        history.remember(present.song);
        fresh.takeVerse(present.song, v);
        return present.addVerse(fresh);
    }

    public int forget() throws IllegalStateException {
        if (present.song.verses == 0) {
            throw new IllegalStateException("there is no verse");
        }
        history.remember(present.song);
        return present.dropOldest();
    }

    public int setSingers(int k) throws IllegalArgumentException {
        if (k < 1 || k > MOST_SINGERS) {
            throw new IllegalArgumentException("no such number of singers");
        }
        history.remember(present.song);
        return present.changeSingers(k);
    }

    public int undo() throws IllegalStateException {
        Song last = history.takeLast();
        if (last == null) {
            throw new IllegalStateException("no state is remembered");
        }
        present.becomeSong(last);
        return history.states;
    }

    // ---- what would be

    public int wouldRepeat() {
        if (!text.fitsVerse()) {
            return NONE;
        }
        fresh.takeLine(text);
        trial.becomeChoir(present);
        trial.addVerse(fresh);
        return trial.order.longestRepeat();
    }

    public int bestSingers() {
        if (!text.fitsVerse()) {
            return NONE;
        }
        fresh.takeLine(text);
        int best = NONE;
        int fewest = MOST_NOTES;
        for (int k = 1; k <= MOST_SINGERS; k++) {
            trial.becomeChoir(present);
            trial.changeSingers(k);
            int handed = trial.addVerse(fresh);
            if (handed <= fewest) {
                fewest = handed;
                best = k;
            }
        }
        return best;
    }

    public int bestAgain() {
        int best = NONE;
        int mostPieces = 0;
        for (int v = 0; v < present.song.verses; v++) {
            fresh.takeVerse(present.song, v);
            trial.becomeChoir(present);
            trial.addVerse(fresh);
            int pieces = trial.order.pieces();
            if (pieces > mostPieces) {
                mostPieces = pieces;
                best = v;
            }
        }
        return best;
    }

    // ---- scripts, simulations

    public int runScript(int n, long script) throws IllegalArgumentException {
        if (n < 1 || n > MOST_COMMANDS || script < 0) {
            throw new IllegalArgumentException("no such script");
        }
        if (groupsFrom(script, n) > 0) {
            throw new IllegalArgumentException("the script has too many digits");
        }
        trial.becomeChoir(present);
        for (int i = 0; i < n; i++) {
            int group = (int) (groupsFrom(script, n - 1 - i) % GROUP);
            if (!runCommand(group / 10000, group % 10000)) {
                return i;
            }
        }
        return NONE;
    }

    private static long groupsFrom(long script, int lowerGroups) {
        long rest = script;
        for (int i = 0; i < lowerGroups; i++) {
            rest = rest / GROUP;
        }
        return rest;
    }

    private boolean runCommand(int kind, int rest) {
        switch (kind) {
            case 1:
                return rest % 100 == 0 && tryVerse(rest / 100);
            case 2:
                return rest == 0 && tryForgetting();
            case 3:
                return rest % 1000 == 0 && trySingers(rest / 1000);
            case 4:
                return tryLetters(rest);
            case 5:
                return rest < 100 && trial.order.longestRepeat() >= rest;
            case 6:
                return rest < 1000 && trial.order.pieces() >= rest;
            case 7:
                return rest < 100 && trial.song.notes >= rest;
            case 8:
                return isSungOften(rest / 100, rest % 100);
            case 9:
                return rest < 1000 && trial.song.handed <= rest;
            default:
                return false;
        }
    }

    private boolean tryVerse(int v) {
        if (!trial.song.hasVerse(v)) {
            return false;
        }
        fresh.takeVerse(trial.song, v);
        trial.addVerse(fresh);
        return true;
    }

    private boolean tryForgetting() {
        if (trial.song.verses == 0) {
            return false;
        }
        trial.dropOldest();
        return true;
    }

    private boolean trySingers(int k) {
        if (k < 1 || k > MOST_SINGERS) {
            return false;
        }
        trial.changeSingers(k);
        return true;
    }

    private boolean tryLetters(int digits) {
        if (!fresh.takeDigits(digits)) {
            return false;
        }
        trial.addVerse(fresh);
        return true;
    }

    private boolean isSungOften(int length, int times) {
        return length >= 1 && length <= LONGEST_VERSE && trial.order.mostSung(length, true) >= times;
    }

    public int simulate(long seed, int m) throws IllegalArgumentException {
        if (m < 1 || m > MOST_SIMULATED) {
            throw new IllegalArgumentException("no such number of verses");
        }
        trial.becomeChoir(present);
        long x = seed;
        int handed = 0;
        for (int i = 0; i < m; i++) {
            x = x * SEED_FACTOR + SEED_STEP;
            takeSimulated((int) (x >>> 33));
            handed += trial.addVerse(fresh);
        }
        return 1000 * trial.order.longestRepeat() + Math.min(handed, MOST_TOLD_HANDED);
    }

    private void takeSimulated(int r) {
        int verses = trial.song.verses;
        if (r % 4 == 0 && verses > 0) {
            fresh.takeVerse(trial.song, r / 8 % verses);
            return;
        }
        fresh.empty();
        int length = 1 + r / 8 % 4;
        int rest = r / 64;
        for (int i = 0; i < length; i++) {
            fresh.add(FIRST_LETTER + rest % 3);
            rest = rest / 4;
        }
    }

    // ---- save slots

    public int save(int slot) throws IndexOutOfBoundsException {
        if (slot < 0 || slot >= slots.length) {
            throw new IndexOutOfBoundsException("no such save slot");
        }
        if (slots[slot] == null) {
            slots[slot] = new Song();
        }
        slots[slot].copyFrom(present.song);
        return present.song.notes;
    }

    public int restore(int slot) throws IndexOutOfBoundsException, IllegalStateException {
        if (slot < 0 || slot >= slots.length) {
            throw new IndexOutOfBoundsException("no such save slot");
        }
        if (slots[slot] == null) {
            throw new IllegalStateException("nothing has been saved in the slot");
        }
        present.becomeSong(slots[slot]);
        history.empty();
        return present.song.notes;
    }

    private static boolean isLetter(int code) {
        return code >= FIRST_LETTER && code < FIRST_LETTER + LETTERS;
    }

    private static void copyRow(int[] from, int[] to) {
        System.arraycopy(from, 0, to, 0, Math.min(from.length, to.length));
    }

    private static int cellOf(int[] row, int i) {
        return i >= 0 && i < row.length ? row[i] : 0;
    }

    /** Characters up to a limit: the text, or the notes of a verse that is about to be sung. */
    private static final class Line {
        private final int[] codes;
        int length = 0;

        Line(int most) {
            codes = new int[Math.max(0, most)];
        }

        boolean isFull() {
            return length >= codes.length;
        }

        void add(int code) {
            if (length >= 0 && length < codes.length) {
                codes[length] = code;
                length++;
            }
        }

        void empty() {
            length = 0;
        }

        int codeAt(int i) {
            return cellOf(codes, i);
        }

        int firstError() {
            for (int i = 0; i < length; i++) {
                if (!isLetter(codeAt(i))) {
                    return i;
                }
            }
            return length == 0 ? 0 : NONE;
        }

        boolean isPattern() {
            return firstError() == NONE;
        }

        boolean fitsVerse() {
            return length <= LONGEST_VERSE && isPattern();
        }

        /** How many notes at the beginning of the text stand in the song from the place on. */
        int sharedWith(Song song, int place) {
            int shared = 0;
            while (shared < length && place + shared < song.notes
                    && codeAt(shared) == song.codeAt(place + shared)) {
                shared++;
            }
            return shared;
        }

        void takeLine(Line text) {
            empty();
            for (int i = 0; i < text.length; i++) {
                add(text.codeAt(i));
            }
        }

        void takeVerse(Song song, int v) {
            empty();
            int start = song.startOf(v);
            int end = start + song.lengthOf(v);
            for (int i = start; i < end; i++) {
                add(song.codeAt(i));
            }
        }

        /** Takes the letters of four digits; answers whether they tell a verse. */
        boolean takeDigits(int digits) {
            empty();
            boolean ended = false;
            int rest = digits;
            for (int i = 0; i < 4; i++) {
                int digit = rest / 1000 % 10;
                rest = rest * 10;
                if (digit > LETTERS || digit != 0 && ended) {
                    return false;
                }
                if (digit == 0) {
                    ended = true;
                } else {
                    add(FIRST_LETTER + digit - 1);
                }
            }
            return length > 0;
        }
    }

    /** All of the state: the notes in their verses, the number of singers, what was counted so far. */
    private static final class Song {
        private final int[] codes = new int[MOST_NOTES];
        private final int[] lengths = new int[MOST_NOTES];
        int notes = 0;
        int verses = 0;
        int singers = 1;
        int age = 0;
        int handed = 0;
        int sung = 0;

        void copyFrom(Song other) {
            copyRow(other.codes, codes);
            copyRow(other.lengths, lengths);
            notes = other.notes;
            verses = other.verses;
            singers = other.singers;
            age = other.age;
            handed = other.handed;
            sung = other.sung;
        }

        int codeAt(int place) {
            return cellOf(codes, place);
        }

        boolean hasVerse(int v) {
            return v >= 0 && v < verses;
        }

        int lengthOf(int v) {
            return hasVerse(v) ? cellOf(lengths, v) : 0;
        }

        int startOf(int v) {
            int start = 0;
            for (int i = 0; i < v && i < verses; i++) {
                start += cellOf(lengths, i);
            }
            return start;
        }

        int verseAt(int place) {
            int end = 0;
            for (int v = 0; v < verses; v++) {
                end += cellOf(lengths, v);
                if (place < end) {
                    return v;
                }
            }
            return NONE;
        }

        int lowestRankOf(int s) {
            return singers < 1 ? 0 : s * notes / singers;
        }

        int longestInBoth(int v, int w) {
            int longest = 0;
            int ofFirst = lengthOf(v);
            int ofSecond = lengthOf(w);
            for (int i = 0; i < ofFirst; i++) {
                for (int j = 0; j < ofSecond; j++) {
                    int most = Math.min(ofFirst - i, ofSecond - j);
                    longest = Math.max(longest, sharedFrom(startOf(v) + i, startOf(w) + j, most));
                }
            }
            return longest;
        }

        private int sharedFrom(int first, int second, int most) {
            int shared = 0;
            while (shared < most && codeAt(first + shared) == codeAt(second + shared)) {
                shared++;
            }
            return shared;
        }

        void dropVerse() {
            int gone = cellOf(lengths, 0);
            for (int i = 0; i < notes - gone && i < codes.length; i++) {
                codes[i] = cellOf(codes, i + gone);
            }
            for (int v = 0; v < verses - 1 && v < lengths.length; v++) {
                lengths[v] = cellOf(lengths, v + 1);
            }
            notes -= gone;
            age += gone;
            verses--;
        }

        void makeRoomFor(int more) {
            for (int left = verses; left > 0 && notes + more > MOST_NOTES; left--) {
                dropVerse();
            }
        }

        void addVerse(Line verse) {
            if (verses >= lengths.length || notes + verse.length > codes.length) {
                return;
            }
            lengths[verses] = verse.length;
            verses++;
            sung++;
            for (int i = 0; i < verse.length && notes < codes.length; i++) {
                codes[notes] = verse.codeAt(i);
                notes++;
            }
        }
    }

    /** The suffixes of a song in their order. */
    private static final class Order {
        private int notes = 0;
        private final int[] ranks = new int[MOST_NOTES];
        private final int[] places = new int[MOST_NOTES];
        private final int[] shared = new int[MOST_NOTES];
        private final int[] repeats = new int[MOST_NOTES];
        private final int[] runs = new int[MOST_NOTES + 1];

        void copyFrom(Order other) {
            notes = other.notes;
            copyRow(other.ranks, ranks);
            copyRow(other.places, places);
            copyRow(other.shared, shared);
            copyRow(other.repeats, repeats);
        }

        void arrange(Song song) {
            notes = Math.max(0, Math.min(song.notes, MOST_NOTES));
            for (int i = 0; i < notes; i++) {
                ranks[i] = 0;
                shared[i] = 0;
                repeats[i] = 0;
            }
            runs[notes] = 0;
            for (int i = notes - 1; i >= 0; i--) {
                compareWithLater(song.codes, i);
            }
            for (int i = 0; i < notes; i++) {
                if (ranks[i] >= 0 && ranks[i] < places.length) {
                    places[ranks[i]] = i;
                }
            }
        }

        /**
         * The suffixes of i and j share one note more than those of i + 1 and j + 1, so one row
         * serves for all i, taken from the last one: ahead of j it tells of i, from j on of i + 1.
         */
        private void compareWithLater(int[] codes, int i) {
            if (i < 0 || i >= notes || notes > codes.length) {
                return;
            }
            for (int j = i + 1; j < notes; j++) {
                int run = codes[i] == codes[j] ? runs[j + 1] + 1 : 0;
                runs[j] = run;
                repeats[i] = Math.max(repeats[i], run);
                repeats[j] = Math.max(repeats[j], run);
                boolean laterIsAhead = j + run >= notes || codes[j + run] < codes[i + run];
                int behind = laterIsAhead ? i : j;
                ranks[behind]++;
                // Of all suffixes ahead of it, one shares most with the one just ahead of it.
                shared[behind] = Math.max(shared[behind], run);
            }
        }

        int rankOf(int place) {
            return cellOf(ranks, place);
        }

        int placeAt(int rank) {
            return rank >= 0 && rank < notes && rank < places.length ? places[rank] : NONE;
        }

        int sharedWithAhead(int place) {
            return cellOf(shared, place);
        }

        int repeatAt(int place) {
            return cellOf(repeats, place);
        }

        /** Each beginning of a suffix is a new piece unless the suffix just ahead has it too. */
        int pieces() {
            int pieces = 0;
            for (int i = 0; i < notes; i++) {
                pieces += notes - i - sharedWithAhead(i);
            }
            return pieces;
        }

        int longestRepeat() {
            int longest = 0;
            for (int i = 0; i < notes; i++) {
                longest = Math.max(longest, repeatAt(i));
            }
            return longest;
        }

        int placeOfLongestRepeat() {
            int longest = longestRepeat();
            for (int i = 0; i < notes && longest > 0; i++) {
                if (repeatAt(i) == longest) {
                    return i;
                }
            }
            return NONE;
        }

        int sharedByAll(int from, int to) {
            if (from >= to) {
                return 0;
            }
            int least = notes - placeAt(from);
            for (int rank = from + 1; rank < to; rank++) {
                least = Math.min(least, sharedWithAhead(placeAt(rank)));
            }
            return least;
        }

        /** Suffixes with the same beginning of this length stand side by side in the order. */
        int mostSung(int length, boolean times) {
            int most = 0;
            int placeOfMost = NONE;
            int sung = 0;
            int lowest = 0;
            for (int rank = 0; rank < notes; rank++) {
                int place = placeAt(rank);
                if (notes - place < length) {
                    continue;
                }
                boolean same = sharedWithAhead(place) >= length;
                sung = same ? sung + 1 : 1;
                lowest = same ? Math.min(lowest, place) : place;
                if (sung > most) {
                    most = sung;
                    placeOfMost = lowest;
                }
            }
            return times ? most : placeOfMost;
        }
    }

    /** A song with the order of its suffixes, and the singers who hand them over. */
    private static final class Choir {
        final Song song = new Song();
        final Order order = new Order();
        private final int[] keepers = new int[MOST_NOTES];
        private final int[] keepersBefore = new int[MOST_NOTES];

        void becomeChoir(Choir other) {
            song.copyFrom(other.song);
            order.copyFrom(other.order);
            copyRow(other.keepers, keepers);
        }

        void becomeSong(Song other) {
            song.copyFrom(other);
            order.arrange(song);
            shareOut();
        }

        int keeperOf(int place) {
            return cellOf(keepers, place);
        }

        int longestRepeatIn(int v) {
            int longest = 0;
            int start = song.startOf(v);
            int end = start + song.lengthOf(v);
            for (int i = start; i < end; i++) {
                longest = Math.max(longest, Math.min(order.repeatAt(i), end - i));
            }
            return longest;
        }

        int addVerse(Line verse) {
            int notes = song.notes;
            int age = song.age;
            song.makeRoomFor(verse.length);
            song.addVerse(verse);
            order.arrange(song);
            return handOver(song.age - age, notes);
        }

        int dropOldest() {
            int notes = song.notes;
            int age = song.age;
            song.dropVerse();
            order.arrange(song);
            return handOver(song.age - age, notes);
        }

        int changeSingers(int k) {
            song.singers = k;
            return handOver(0, song.notes);
        }

        /** Behind a change: of the notes that were there before, the first so many are gone. */
        private int handOver(int gone, int notesBefore) {
            copyRow(keepers, keepersBefore);
            shareOut();
            int handed = 0;
            for (int i = gone; i < notesBefore; i++) {
                if (cellOf(keepersBefore, i) != keeperOf(i - gone)) {
                    handed++;
                }
            }
            song.handed += handed;
            return handed;
        }

        private void shareOut() {
            for (int s = 0; s < song.singers; s++) {
                int end = song.lowestRankOf(s + 1);
                for (int rank = song.lowestRankOf(s); rank < end; rank++) {
                    int place = order.placeAt(rank);
                    if (place >= 0 && place < keepers.length) {
                        keepers[place] = s;
                    }
                }
            }
        }
    }

    /** The states that undo can bring back: a ring, so that the oldest one gives its room. */
    private static final class History {
        private final Song[] ring = new Song[MOST_REMEMBERED];
        private int oldest = 0;
        int states = 0;

        void empty() {
            states = 0;
        }

        void remember(Song song) {
            int i = (oldest + states) % MOST_REMEMBERED;
            if (i < 0 || i >= ring.length) {
                return;
            }
            if (ring[i] == null) {
                ring[i] = new Song();
            }
            ring[i].copyFrom(song);
            if (states < MOST_REMEMBERED) {
                states++;
            } else {
                oldest = (oldest + 1) % MOST_REMEMBERED;
            }
        }

        /** Answers null if none is remembered. */
        Song takeLast() {
            if (states == 0) {
                return null;
            }
            states--;
            int i = (oldest + states) % MOST_REMEMBERED;
            return i >= 0 && i < ring.length ? ring[i] : null;
        }
    }
}
