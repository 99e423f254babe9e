/** Promises 25 and 26: save slots. */
public final class SlotTest {
    public static void main(String[] args) {
        saving();
        restoring();
        slotsAreApart();
        Check.end();
    }

    private static void saving() {
        SongChoir x = new SongChoir();
        Check.due("promise 25: without a song", x.save(1), 0);
        Check.sing(x, "cab");
        Check.due("promise 25: notes", x.save(0), 3);
        Check.due("promise 25: save is no action", x.undo(), 0);
        Check.dueThrow("promise 25: save(2)", () -> x.save(2), Check.BOUNDS);
        Check.dueThrow("promise 25: save(-1)", () -> x.save(-1), Check.BOUNDS);
        Check.dueThrow("promise 25: save(least)", () -> x.save(Integer.MIN_VALUE), Check.BOUNDS);
        Check.due("promise 25: undo leaves the slots alone", x.restore(0), 3);
        Check.sing(x, "bage");
        Check.due("promise 25: what is there is written over", x.save(0), 7);
        x.forget();
        Check.due("promise 25: with the later one", x.restore(0), 7);
    }

    private static void restoring() {
        SongChoir x = Check.withVerses("cab", "bage");
        x.setSingers(3);
        x.forget();
        x.save(0);
        String saved = Check.picture(x);
        Check.sing(x, "hhh");
        x.setSingers(5);
        Check.text(x, "abcde");
        Check.due("promise 26: notes then", x.restore(0), 4);
        Check.same("promise 26: the state of then", Check.picture(x), saved);
        Check.dueThrow("promise 26: no state is remembered", x::undo, Check.STATE);
        Check.due("promise 26: the text is no part of it", x.clearText(), 5);
        Check.sing(x, "d");
        Check.due("promise 26: restore is no action", x.undo(), 0);
        Check.same("promise 26: undo comes back to it", Check.picture(x), saved);
        x.forget();
        x.restore(0);
        Check.same("promise 26: the slot keeps it", Check.picture(x), saved);
        Check.dueThrow("promise 26: restore(2)", () -> x.restore(2), Check.BOUNDS);
        Check.dueThrow("promise 26: restore(-1)", () -> x.restore(-1), Check.BOUNDS);
        Check.dueThrow("promise 26: nothing in slot 1", () -> x.restore(1), Check.STATE);
    }

    private static void slotsAreApart() {
        SongChoir x = new SongChoir();
        x.save(0);
        Check.sing(x, "ab");
        x.save(1);
        Check.due("promise 26: slot 0", x.restore(0), 0);
        Check.due("promise 26: an empty song has no verse", x.about(1), 0);
        Check.due("promise 26: slot 1", x.restore(1), 2);
        for (int i = 0; i < 20; i++) {
            Check.sing(x, "hg");
        }
        Check.due("promise 26: and it is still the same one", x.restore(1), 2);
        Check.due("promise 26: with its notes", x.note(1, 0), 'b');
    }
}
