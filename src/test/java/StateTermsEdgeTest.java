import java.util.function.ToIntFunction;

/**
 * The edges that the document names in its terms "Text", "Actions and undo" and "Exceptions", and
 * ahead of the calls that change nothing: a test for each sentence.
 */
public final class StateTermsEdgeTest {
    private static final String A40 = "a".repeat(40);

    public static void main(String[] args) {
        text();
        actionsAndUndo();
        exceptions();
        whatWouldBe();
        Check.end();
    }

    private static void text() {
        String where = "text";
        Check.edge(where, "The object has a text buffer of at most 40 characters", StateTermsEdgeTest::atMost40);
        Check.edge(where, "it is a pattern if it has 1 or more characters", StateTermsEdgeTest::oneOrMore);
        Check.edge(where, "all of them letters from a to h", StateTermsEdgeTest::lettersFromAToH);
        Check.edge(where, "A pattern of at most 12 can become a verse", StateTermsEdgeTest::atMost12);
        Check.edge(where, "The error position is the index of the first other character",
            StateTermsEdgeTest::firstOtherCharacter);
        Check.edge(where, "if the text is empty, it is 0", StateTermsEdgeTest::errorOfEmptyText);
    }

    private static void actionsAndUndo() {
        String where = "actions and undo";
        Check.edge(where, "which consists of everything but the text and the save slots",
            StateTermsEdgeTest::textIsNoState);
        Check.edge(where, "which consists of everything but the text and the save slots",
            StateTermsEdgeTest::slotsAreNoState);
        Check.edge(where, "which consists of everything but the text and the save slots",
            StateTermsEdgeTest::everythingElseIsState);
        Check.edge(where, "Each call of one of them that does not throw an exception is an action",
            StateTermsEdgeTest::eachActionIsRemembered);
        Check.edge(where, "Each call of one of them that does not throw an exception is an action",
            StateTermsEdgeTest::refusedCallIsNoAction);
        Check.edge(where, "also if nothing becomes different", StateTermsEdgeTest::nothingBecomesDifferent);
        Check.edge(where, "(undo is none)", StateTermsEdgeTest::undoIsNoAction);
        Check.edge(where, "Before each action, the state is remembered", StateTermsEdgeTest::beforeTheFirstAction);
        Check.edge(where, "At most 14 states are remembered", StateTermsEdgeTest::atMost14States);
        Check.edge(where, "when one more is remembered, the oldest one is forgotten",
            StateTermsEdgeTest::oldestStateIsForgotten);
        Check.edge(where, "when one more is remembered, the oldest one is forgotten",
            StateTermsEdgeTest::statesRoundAndRound);
        Check.edge(where, "restore is not an action", StateTermsEdgeTest::restoreIsNoAction);
    }

    private static void exceptions() {
        String where = "exceptions";
        Check.edge(where, "IndexOutOfBoundsException means that a place, a verse or a singer does not exist",
            StateTermsEdgeTest::doesNotExist);
        Check.edge(where, "or that a save slot is not 0 or 1", StateTermsEdgeTest::slotNot0Or1);
        Check.edge(where, "IllegalArgumentException means that another argument is out of its range",
            StateTermsEdgeTest::outOfRange);
        Check.edge(where, "IllegalStateException means what the method says", StateTermsEdgeTest::whatTheMethodSays);
        Check.edge(where, "If several exceptions apply to a call, the one that its description names first is thrown",
            StateTermsEdgeTest::severalExceptions);
        Check.edge(where, "A call that throws an exception changes nothing", StateTermsEdgeTest::refusedQuestions);
        Check.edge(where, "A call that throws an exception changes nothing", StateTermsEdgeTest::refusedActions);
        Check.edge(where, "A call that throws an exception changes nothing", StateTermsEdgeTest::refusedAtTheEnds);
        Check.edge(where, "A call that throws an exception changes nothing",
            StateTermsEdgeTest::refusedWith14Remembered);
    }

    private static void whatWouldBe() {
        String where = "what would be";
        Check.edge(where, "these and all following methods up to the save slots change nothing",
            StateTermsEdgeTest::whatWouldBeChangesNothing);
        Check.edge(where, "these and all following methods up to the save slots change nothing",
            StateTermsEdgeTest::nothingOfAFullSong);
        Check.edge(where, "these and all following methods up to the save slots change nothing",
            StateTermsEdgeTest::nothingOfANewObject);
    }

    private static void atMost40() {
        SongChoir x = Check.text(new SongChoir(), "a".repeat(39));
        Check.due("the 40th character", x.append('a'), 40);
        Check.dueThrow("the 41st character", () -> x.append('a'), Check.STATE);
        Check.due("all 40 are there", x.clearText(), 40);
        Check.due("and there is room again", x.append('a'), 1);
    }

    private static void oneOrMore() {
        SongChoir x = Check.withVerses("a");
        Check.dueThrow("no character", Check.text(x, "")::count, Check.STATE);
        Check.due("1 character", Check.text(x, "a").count(), 1);
        Check.due("40 characters", Check.text(x, A40).count(), 0);
    }

    private static void lettersFromAToH() {
        SongChoir x = new SongChoir();
        Check.due("a to h", Check.text(x, "abcdefgh").count(), 0);
        for (int c : new int[] {0, 'A', 'H', '`', 'i', 255}) {
            x.clearText();
            x.append(c);
            Check.dueThrow("the code " + c, x::count, Check.STATE);
        }
        Check.dueThrow("the first one is no letter", Check.text(x, "?a")::count, Check.STATE);
        Check.dueThrow("the last one of 40 is none", Check.text(x, "a".repeat(39) + "i")::count, Check.STATE);
    }

    private static void atMost12() {
        SongChoir x = Check.text(new SongChoir(), "abcdefghabcd");
        Check.due("12 letters", x.sing(), 0);
        Check.due("are a verse", x.verse(0, 1), 12);
        x.append('e');
        Check.dueThrow("13 letters", x::sing, Check.STATE);
        Check.due("are a pattern", x.count(), 0);
        Check.dueThrow("40 letters", Check.text(x, A40)::sing, Check.STATE);
        Check.dueThrow("12 characters with another one", Check.text(x, "abcdefghabc?")::sing, Check.STATE);
        Check.due("there is one verse", x.about(1), 1);
    }

    private static void firstOtherCharacter() {
        SongChoir x = new SongChoir();
        Check.due("the first of all", Check.text(x, "?a?").errorPosition(), 0);
        Check.due("in the midst", Check.text(x, "ab?c?").errorPosition(), 2);
        Check.due("the last of 13", Check.text(x, "a".repeat(12) + "i").errorPosition(), 12);
        Check.due("the last of 40", Check.text(x, "a".repeat(39) + "`").errorPosition(), 39);
    }

    private static void errorOfEmptyText() {
        SongChoir x = new SongChoir();
        Check.due("in a new object", x.errorPosition(), 0);
        Check.due("of a letter", Check.text(x, "a").errorPosition(), -1);
        x.clearText();
        Check.due("behind clearText()", x.errorPosition(), 0);
    }

    private static void textIsNoState() {
        SongChoir x = Check.withVerses("ab");
        x.save(0);
        Check.text(x, "abcde");
        x.undo();
        Check.due("the text behind undo()", x.clearText(), 5);
        Check.text(x, "abcdef");
        x.restore(0);
        Check.due("the text behind restore()", x.clearText(), 6);
    }

    private static void slotsAreNoState() {
        SongChoir x = new SongChoir();
        x.setSingers(2);
        x.save(0);
        x.undo();
        Check.due("undo() leaves the slot that was written since", x.restore(0), 0);
        Check.due("with its singers", x.about(2), 2);
        x.setSingers(3);
        x.save(1);
        x.restore(0);
        x.restore(1);
        Check.due("restore(0) leaves slot 1", x.about(2), 3);
        x.restore(0);
        Check.due("restore(1) leaves slot 0", x.about(2), 2);
    }

    private static void everythingElseIsState() {
        SongChoir x = Check.withVerses("ab", "ca", "b");
        x.setSingers(3);
        String before = Check.picture(x);
        x.save(0);
        x.forget();
        x.undo();
        Check.same("undo() of forget()", Check.picture(x), before);
        x.again(0);
        x.undo();
        Check.same("undo() of again()", Check.picture(x), before);
        x.setSingers(5);
        x.restore(0);
        Check.same("restore() behind setSingers()", Check.picture(x), before);
    }

    private static void eachActionIsRemembered() {
        SongChoir x = Check.withVerses("a");
        x.again(0);
        x.forget();
        x.setSingers(4);
        for (int left = 3; left >= 0; left--) {
            Check.due("states behind undo()", x.undo(), left);
        }
    }

    private static void refusedCallIsNoAction() {
        SongChoir x = Check.withVerses("a");
        Check.dueThrow("sing", Check.text(x, "")::sing, Check.STATE);
        Check.dueThrow("again", () -> x.again(1), Check.BOUNDS);
        Check.dueThrow("setSingers", () -> x.setSingers(9), Check.ARGUMENT);
        Check.due("states that are left of one action", x.undo(), 0);
        Check.dueThrow("forget", x::forget, Check.STATE);
        Check.dueThrow("there was no other action", x::undo, Check.STATE);
    }

    private static void nothingBecomesDifferent() {
        SongChoir x = new SongChoir();
        x.setSingers(1);
        x.setSingers(1);
        Check.due("the second one is taken back", x.undo(), 1);
        Check.due("and the first one", x.undo(), 0);
        Check.dueThrow("and no other", x::undo, Check.STATE);
    }

    private static void undoIsNoAction() {
        SongChoir x = Check.withVerses("a", "b");
        Check.due("one of two actions is taken back", x.undo(), 1);
        Check.due("the other one, and not the undo()", x.undo(), 0);
        Check.due("so no verse is left", x.about(1), 0);
        Check.dueThrow("none is remembered", x::undo, Check.STATE);
    }

    private static void beforeTheFirstAction() {
        SongChoir x = new SongChoir();
        Check.dueThrow("no action", x::undo, Check.STATE);
        Check.sing(x, "ab");
        Check.due("one action", x.undo(), 0);
        Check.same("the state of the new object", Check.picture(x), Check.picture(new SongChoir()));
    }

    private static void atMost14States() {
        for (int actions = 13; actions <= 15; actions++) {
            SongChoir x = new SongChoir();
            for (int i = 0; i < actions; i++) {
                x.setSingers(1 + i % 8);
            }
            Check.due("behind " + actions + " actions", x.undo(), Math.min(actions, 14) - 1);
            for (int left = Math.min(actions, 14) - 2; left >= 0; left--) {
                Check.due("of " + actions + " actions, one less", x.undo(), left);
            }
            Check.dueThrow("none is left of " + actions, x::undo, Check.STATE);
        }
    }

    private static void oldestStateIsForgotten() {
        SongChoir x = new SongChoir();
        for (int i = 0; i < 15; i++) {
            Check.sing(x, "a");
        }
        for (int left = 13; left >= 0; left--) {
            x.undo();
            Check.due("notes with " + left + " states left", x.about(0), left + 1);
        }
        Check.dueThrow("the new object is forgotten", x::undo, Check.STATE);
        Check.due("the song of one note stays", x.about(0), 1);
    }

    /** Up and down past the end of 14 rows, so that new states lie where old ones lay. */
    private static void statesRoundAndRound() {
        SongChoir x = new SongChoir();
        int notes = 0;
        for (int round = 0; round < 5; round++) {
            for (int i = 0; i < 10; i++) {
                Check.sing(x, "a");
                notes++;
            }
            for (int i = 0; i < 5; i++) {
                x.undo();
                notes--;
                Check.due("notes in round " + round, x.about(0), notes);
            }
        }
        for (int left = 14 - 5 - 1; left >= 0; left--) {
            Check.due("states that are left at the end", x.undo(), left);
            notes--;
            Check.due("notes with " + left + " states left", x.about(0), notes);
        }
        Check.dueThrow("none is left", x::undo, Check.STATE);
    }

    private static void restoreIsNoAction() {
        SongChoir x = Check.withVerses("a");
        x.save(0);
        x.restore(0);
        Check.dueThrow("nothing can be taken back", x::undo, Check.STATE);
        Check.sing(x, "b");
        Check.due("the action behind it can", x.undo(), 0);
        Check.dueThrow("and not the restore()", x::undo, Check.STATE);
        Check.due("the song that was restored", x.about(0), 1);
    }

    private static void doesNotExist() {
        SongChoir x = Check.withVerses("ab", "c");
        for (int i : new int[] {Integer.MIN_VALUE, -1, 3, Integer.MAX_VALUE}) {
            Check.dueThrow("place " + i, () -> x.note(i, 0), Check.BOUNDS);
        }
        for (int v : new int[] {Integer.MIN_VALUE, -1, 2, Integer.MAX_VALUE}) {
            Check.dueThrow("verse(" + v + ", 0)", () -> x.verse(v, 0), Check.BOUNDS);
            Check.dueThrow("common(" + v + ", 0)", () -> x.common(v, 0), Check.BOUNDS);
            Check.dueThrow("common(0, " + v + ")", () -> x.common(0, v), Check.BOUNDS);
            Check.dueThrow("again(" + v + ")", () -> x.again(v), Check.BOUNDS);
        }
        for (int s : new int[] {Integer.MIN_VALUE, -1, 1, Integer.MAX_VALUE}) {
            Check.dueThrow("singer " + s, () -> x.singer(s, 0), Check.BOUNDS);
        }
        Check.due("the last place", x.note(2, 0), 'c');
        Check.due("the last verse", x.verse(1, 0), 2);
        Check.due("the last singer", x.singer(0, 1), 3);
    }

    private static void slotNot0Or1() {
        SongChoir x = Check.withVerses("ab");
        for (int slot : new int[] {Integer.MIN_VALUE, -1, 2, Integer.MAX_VALUE}) {
            Check.dueThrow("save(" + slot + ")", () -> x.save(slot), Check.BOUNDS);
            Check.dueThrow("restore(" + slot + ")", () -> x.restore(slot), Check.BOUNDS);
        }
        for (int slot = 0; slot < 2; slot++) {
            Check.due("save(" + slot + ")", x.save(slot), 2);
            Check.due("restore(" + slot + ")", x.restore(slot), 2);
        }
    }

    private static void outOfRange() {
        SongChoir x = Check.text(Check.withVerses("ab"), "a");
        for (int far : new int[] {Integer.MIN_VALUE, -1, 256, Integer.MAX_VALUE}) {
            Check.dueThrow("append(" + far + ")", () -> x.append(far), Check.ARGUMENT);
            Check.dueThrow("about(" + far + ")", () -> x.about(far), Check.ARGUMENT);
            Check.dueThrow("note(0, " + far + ")", () -> x.note(0, far), Check.ARGUMENT);
            Check.dueThrow("verse(0, " + far + ")", () -> x.verse(0, far), Check.ARGUMENT);
            Check.dueThrow("singer(0, " + far + ")", () -> x.singer(0, far), Check.ARGUMENT);
            Check.dueThrow("most(" + far + ", true)", () -> x.most(far, true), Check.ARGUMENT);
            Check.dueThrow("setSingers(" + far + ")", () -> x.setSingers(far), Check.ARGUMENT);
            Check.dueThrow("runScript(" + far + ", 0)", () -> x.runScript(far, 0), Check.ARGUMENT);
            Check.dueThrow("simulate(0, " + far + ")", () -> x.simulate(0, far), Check.ARGUMENT);
        }
        for (int below : new int[] {Integer.MIN_VALUE, -1}) {
            Check.dueThrow("suffix(" + below + ")", () -> x.suffix(below), Check.ARGUMENT);
            Check.dueThrow("placeOf(" + below + ")", () -> x.placeOf(below), Check.ARGUMENT);
        }
    }

    private static void whatTheMethodSays() {
        SongChoir x = Check.text(new SongChoir(), "a".repeat(39) + "?");
        Check.dueThrow("append to 40", () -> x.append('a'), Check.STATE);
        Check.dueThrow("count of no pattern", x::count, Check.STATE);
        Check.dueThrow("placeOf of no pattern", () -> x.placeOf(0), Check.STATE);
        Check.dueThrow("known of no pattern", x::known, Check.STATE);
        Check.dueThrow("sing of no pattern", x::sing, Check.STATE);
        Check.dueThrow("forget without a verse", x::forget, Check.STATE);
        Check.dueThrow("undo without a state", x::undo, Check.STATE);
        Check.dueThrow("restore of nothing", () -> x.restore(0), Check.STATE);
    }

    private static void severalExceptions() {
        SongChoir x = Check.text(Check.withVerses("ab"), "?".repeat(40));
        Check.dueThrow("append: the code, then the full text", () -> x.append(-1), Check.ARGUMENT);
        Check.dueThrow("append: also above", () -> x.append(256), Check.ARGUMENT);
        Check.dueThrow("note: the place, then the number", () -> x.note(2, 5), Check.BOUNDS);
        Check.dueThrow("note: also below", () -> x.note(-1, -1), Check.BOUNDS);
        Check.dueThrow("verse: the verse, then the number", () -> x.verse(1, 3), Check.BOUNDS);
        Check.dueThrow("verse: also below", () -> x.verse(-1, -1), Check.BOUNDS);
        Check.dueThrow("singer: the singer, then the number", () -> x.singer(1, 3), Check.BOUNDS);
        Check.dueThrow("singer: also below", () -> x.singer(-1, -1), Check.BOUNDS);
        Check.dueThrow("placeOf: the number, then the text", () -> x.placeOf(-1), Check.ARGUMENT);
        Check.dueThrow("restore: the slot, then what is in it", () -> x.restore(2), Check.BOUNDS);
        Check.dueThrow("restore: also below", () -> x.restore(-1), Check.BOUNDS);
    }

    /** A short song with remembered states, something in slot 0 and nothing in slot 1. */
    private static SongChoir busy(String text) {
        SongChoir x = Check.withVerses("ab", "a");
        x.save(0);
        x.setSingers(3);
        x.again(0);
        return Check.text(x, text);
    }

    /** Two objects that were used alike differ in nothing if the refused call changes nothing. */
    private static void refused(String what, String text, ToIntFunction<SongChoir> call, String exception) {
        SongChoir x = busy(text);
        Check.dueThrow(what, () -> call.applyAsInt(x), exception);
        Check.same("behind " + what, Check.whole(x), Check.whole(busy(text)));
    }

    private static void refusedQuestions() {
        refused("append(-1)", "ab?", x -> x.append(-1), Check.ARGUMENT);
        refused("append(256)", "ab", x -> x.append(256), Check.ARGUMENT);
        refused("append('?') to 40", A40, x -> x.append('?'), Check.STATE);
        refused("about(9)", "ab", x -> x.about(9), Check.ARGUMENT);
        refused("note(5, 0)", "ab", x -> x.note(5, 0), Check.BOUNDS);
        refused("note(0, 5)", "ab", x -> x.note(0, 5), Check.ARGUMENT);
        refused("suffix(-1)", "ab", x -> x.suffix(-1), Check.ARGUMENT);
        refused("verse(3, 0)", "ab", x -> x.verse(3, 0), Check.BOUNDS);
        refused("verse(0, 3)", "ab", x -> x.verse(0, 3), Check.ARGUMENT);
        refused("singer(3, 0)", "ab", x -> x.singer(3, 0), Check.BOUNDS);
        refused("singer(0, 3)", "ab", x -> x.singer(0, 3), Check.ARGUMENT);
        refused("count()", "a?", SongChoir::count, Check.STATE);
        refused("placeOf(-1)", "ab", x -> x.placeOf(-1), Check.ARGUMENT);
        refused("placeOf(0)", "a?", x -> x.placeOf(0), Check.STATE);
        refused("known()", "a?", SongChoir::known, Check.STATE);
        refused("common(0, 3)", "ab", x -> x.common(0, 3), Check.BOUNDS);
        refused("most(13, true)", "ab", x -> x.most(13, true), Check.ARGUMENT);
    }

    private static void refusedActions() {
        refused("sing() of no pattern", "ab?", SongChoir::sing, Check.STATE);
        refused("sing() of nothing", "", SongChoir::sing, Check.STATE);
        refused("sing() of 13", "a".repeat(13), SongChoir::sing, Check.STATE);
        refused("again(3)", "ab", x -> x.again(3), Check.BOUNDS);
        refused("again(-1)", "ab", x -> x.again(-1), Check.BOUNDS);
        refused("setSingers(0)", "ab", x -> x.setSingers(0), Check.ARGUMENT);
        refused("setSingers(9)", "ab", x -> x.setSingers(9), Check.ARGUMENT);
        refused("runScript(4, 0)", "ab", x -> x.runScript(4, 0), Check.ARGUMENT);
        refused("runScript(1, -1)", "ab", x -> x.runScript(1, -1), Check.ARGUMENT);
        refused("runScript(1, 100000)", "ab", x -> x.runScript(1, 100000), Check.ARGUMENT);
        refused("simulate(0, 21)", "ab", x -> x.simulate(0, 21), Check.ARGUMENT);
        refused("save(2)", "ab", x -> x.save(2), Check.BOUNDS);
        refused("restore(2)", "ab", x -> x.restore(2), Check.BOUNDS);
        refused("restore(1), where nothing is", "ab", x -> x.restore(1), Check.STATE);
    }

    private static void refusedAtTheEnds() {
        SongChoir x = new SongChoir();
        Check.dueThrow("forget() in a new object", x::forget, Check.STATE);
        Check.dueThrow("undo() in a new object", x::undo, Check.STATE);
        Check.dueThrow("again(0) in a new object", () -> x.again(0), Check.BOUNDS);
        Check.dueThrow("restore(0) in a new object", () -> x.restore(0), Check.STATE);
        Check.same("behind them", Check.whole(x), Check.whole(new SongChoir()));
    }

    private static void refusedWith14Remembered() {
        SongChoir x = new SongChoir();
        for (int i = 0; i < 14; i++) {
            x.setSingers(2 + i % 7);
        }
        x.append('?');
        Check.dueThrow("sing", x::sing, Check.STATE);
        Check.dueThrow("again", () -> x.again(0), Check.BOUNDS);
        Check.dueThrow("forget", x::forget, Check.STATE);
        Check.dueThrow("setSingers", () -> x.setSingers(9), Check.ARGUMENT);
        Check.dueThrow("restore", () -> x.restore(1), Check.STATE);
        for (int left = 13; left >= 0; left--) {
            Check.due("all 14 are there", x.undo(), left);
        }
        Check.due("the oldest one too", x.about(2), 1);
    }

    private static void whatWouldBeChangesNothing() {
        Check.due("the best number of singers is not the present one", busy("b").bestSingers(), 1);
        String whole = Check.whole(busy("b"));
        Check.same("wouldRepeat()", afterwards(x -> x.wouldRepeat()), whole);
        Check.same("bestSingers()", afterwards(x -> x.bestSingers()), whole);
        Check.same("bestAgain()", afterwards(x -> x.bestAgain()), whole);
        Check.same("runScript() that succeeds", afterwards(x -> x.runScript(3, 10000_20000_38000L)), whole);
        Check.same("runScript() that fails", afterwards(x -> x.runScript(3, 41234_38000_19900L)), whole);
        Check.same("simulate()", afterwards(x -> x.simulate(0, 20)), whole);
    }

    private static String afterwards(ToIntFunction<SongChoir> call) {
        SongChoir x = busy("b");
        call.applyAsInt(x);
        return Check.whole(x);
    }

    private static void nothingOfAFullSong() {
        SongChoir x = Check.text(Check.fullSong(), "efgh");
        x.wouldRepeat();
        x.bestSingers();
        x.bestAgain();
        x.runScript(3, 10300_41234_38000L);
        x.simulate(0, 20);
        Check.same("the song", Check.song(x), Check.song(Check.fullSong()));
        Check.due("the verses that were sung", x.about(8), 4);
        Check.due("the notes that were forgotten", x.about(3), 0);
        Check.due("the text", x.clearText(), 4);
        Check.due("the remembered states", x.undo(), 3);
    }

    private static void nothingOfANewObject() {
        SongChoir x = new SongChoir();
        x.wouldRepeat();
        x.bestSingers();
        x.bestAgain();
        x.runScript(3, 41234_38000_10000L);
        x.simulate(0, 20);
        Check.same("a new object", Check.whole(x), Check.whole(new SongChoir()));
    }
}
