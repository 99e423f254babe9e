/** What the tests share: one object, its calls as lambdas, and the answers that are due. */
final class Check {
    static final String BOUNDS = "IndexOutOfBoundsException";
    static final String ARGUMENT = "IllegalArgumentException";
    static final String STATE = "IllegalStateException";

    interface Call {
        int answer();
    }

    private static int wrong = 0;
    private static int asked = 0;

    private Check() {
    }

    static void due(String what, long got, long want) {
        asked++;
        if (got != want) {
            wrong++;
            System.out.println(what + " answered " + got + ", due is " + want);
        }
    }

    static void holds(String what, boolean isSo) {
        due(what, isSo ? 1 : 0, 1);
    }

    static void dueThrow(String what, Call call, String exception) {
        String got = outcome(call);
        asked++;
        if (!got.equals(exception)) {
            wrong++;
            System.out.println(what + " gave " + got + ", due is " + exception);
        }
    }

    /** The answer in digits, or the name of the very class that was thrown. */
    static String outcome(Call call) {
        try {
            return Integer.toString(call.answer());
        } catch (RuntimeException e) {
            return e.getClass().getSimpleName();
        }
    }

    static SongChoir text(SongChoir x, String text) {
        x.clearText();
        for (int i = 0; i < text.length(); i++) {
            x.append(text.charAt(i));
        }
        return x;
    }

    static int sing(SongChoir x, String verse) {
        return text(x, verse).sing();
    }

    static SongChoir withVerses(String... verses) {
        SongChoir x = new SongChoir();
        for (String verse : verses) {
            sing(x, verse);
        }
        return x;
    }

    /** Everything that can be asked without an argument of the caller's choice, but for the text. */
    static String picture(SongChoir x) {
        StringBuilder all = new StringBuilder();
        for (int what = 0; what <= 8; what++) {
            all.append(x.about(what)).append(' ');
        }
        for (int i = 0; i < x.about(0); i++) {
            for (int what = 0; what <= 4; what++) {
                all.append(x.note(i, what)).append(' ');
            }
            all.append(x.suffix(i)).append(' ');
        }
        for (int v = 0; v < x.about(1); v++) {
            for (int what = 0; what <= 2; what++) {
                all.append(x.verse(v, what)).append(' ');
            }
        }
        for (int s = 0; s < x.about(2); s++) {
            for (int what = 0; what <= 2; what++) {
                all.append(x.singer(s, what)).append(' ');
            }
        }
        return all.toString();
    }

    static void same(String what, String got, String want) {
        asked++;
        if (!got.equals(want)) {
            wrong++;
            System.out.println(what + ": got " + got + ", due is " + want);
        }
    }

    static void end() {
        System.out.println(asked + " answers, " + wrong + " wrong");
        if (wrong != 0) {
            System.exit(1);
        }
    }
}
