/** What the tests share: one object, its calls as lambdas, and the answers that are due. */
final class Check {
    static final String BOUNDS = "IndexOutOfBoundsException";
    static final String ARGUMENT = "IllegalArgumentException";
    static final String STATE = "IllegalStateException";

    interface Call {
        int answer();
    }

    private static int wrong = 0;
    private static int asked = 0;
    private static String sentence = "";

    private Check() {
    }

    /** A sentence of the document that names an edge, told where it stands, with the test of it. */
    static void edge(String where, String told, Runnable test) {
        sentence = where + ", \"" + told + "\": ";
        int askedBefore = asked;
        try {
            test.run();
        } catch (RuntimeException e) {
            fault("the test was broken off by " + e);
        }
        if (asked == askedBefore) {
            fault("the test asked nothing");
        }
        sentence = "";
    }

    private static void fault(String told) {
        wrong++;
        System.out.println(sentence + told);
    }

    static void due(String what, long got, long want) {
        asked++;
        if (got != want) {
            fault(what + " answered " + got + ", due is " + want);
        }
    }

    static void holds(String what, boolean isSo) {
        due(what, isSo ? 1 : 0, 1);
    }

    static void dueThrow(String what, Call call, String exception) {
        String got = outcome(call);
        asked++;
        if (!got.equals(exception)) {
            fault(what + " gave " + got + ", due is " + exception);
        }
    }

    /** The answer in digits, or the name of the very class that was thrown. */
    static String outcome(Call call) {
        try {
            return Integer.toString(call.answer());
        } catch (RuntimeException e) {
            return e.getClass().getSimpleName();
        }
    }

    static SongChoir text(SongChoir x, String text) {
        x.clearText();
        for (int i = 0; i < text.length(); i++) {
            x.append(text.charAt(i));
        }
        return x;
    }

    static int sing(SongChoir x, String verse) {
        return text(x, verse).sing();
    }

    static SongChoir withVerses(String... verses) {
        SongChoir x = new SongChoir();
        for (String verse : verses) {
            sing(x, verse);
        }
        return x;
    }

    /** Four verses of twelve notes each, a to d: as many notes as a song can have. */
    static SongChoir fullSong() {
        return withVerses("a".repeat(12), "b".repeat(12), "c".repeat(12), "d".repeat(12));
    }

    /** A song whose only verse was forgotten. */
    static SongChoir emptiedSong() {
        SongChoir x = withVerses("ab");
        x.forget();
        return x;
    }

    static String song(SongChoir x) {
        StringBuilder song = new StringBuilder();
        int notes = x.about(0);
        for (int i = 0; i < notes; i++) {
            song.append((char) x.note(i, 0));
        }
        return song.toString();
    }

    /** Everything that can be asked without an argument of the caller's choice, but for the text. */
    static String picture(SongChoir x) {
        StringBuilder all = new StringBuilder();
        for (int what = 0; what <= 8; what++) {
            all.append(x.about(what)).append(' ');
        }
        int notes = x.about(0);
        int verses = x.about(1);
        int singers = x.about(2);
        for (int i = 0; i < notes; i++) {
            for (int what = 0; what <= 4; what++) {
                all.append(x.note(i, what)).append(' ');
            }
            all.append(x.suffix(i)).append(' ');
        }
        for (int v = 0; v < verses; v++) {
            for (int what = 0; what <= 2; what++) {
                all.append(x.verse(v, what)).append(' ');
            }
        }
        for (int s = 0; s < singers; s++) {
            for (int what = 0; what <= 2; what++) {
                all.append(x.singer(s, what)).append(' ');
            }
        }
        return all.toString();
    }

    /** The state, the text, the remembered states and the slots: uses the object up. */
    static String whole(SongChoir x) {
        StringBuilder all = new StringBuilder(picture(x));
        all.append("text ").append(x.errorPosition()).append(' ').append(outcome(x::count));
        all.append(' ').append(x.clearText());
        String left = outcome(x::undo);
        for (int i = 0; i < 20 && !left.equals(STATE); i++) {
            all.append(" undo ").append(left).append(": ").append(picture(x));
            left = outcome(x::undo);
        }
        for (int slot = 0; slot < 2; slot++) {
            int from = slot;
            all.append(" slot ").append(outcome(() -> x.restore(from))).append(": ").append(picture(x));
        }
        return all.toString();
    }

    static void same(String what, String got, String want) {
        asked++;
        if (!got.equals(want)) {
            fault(what + " got " + got + ", due is " + want);
        }
    }

    static void end() {
        System.out.println(asked + " answers, " + wrong + " wrong");
        if (wrong != 0) {
            System.exit(1);
        }
    }
}
