/** The edges that the document names in promises 25 and 26: a test for each sentence. */
public final class SlotEdgeTest {
    private static final int[] NO_SLOTS = {Integer.MIN_VALUE, -1, 2, Integer.MAX_VALUE};

    public static void main(String[] args) {
        Check.edge("promise 25", "Stores the present state in a save slot", SlotEdgeTest::presentState);
        Check.edge("promise 25", "Stores the present state in a save slot", SlotEdgeTest::laterStateInItsPlace);
        Check.edge("promise 25", "slot: 0 or 1", SlotEdgeTest::bothSlots);
        Check.edge("promise 25", "Returns the number of notes", SlotEdgeTest::notesSaved);
        Check.edge("promise 25", "Throws IndexOutOfBoundsException if there is no such save slot",
            SlotEdgeTest::saveInNoSlot);
        Check.edge("promise 26", "Replaces the state by the one in a save slot", SlotEdgeTest::stateReplaced);
        Check.edge("promise 26", "and forgets all remembered states", SlotEdgeTest::rememberedStatesForgotten);
        Check.edge("promise 26", "The save slot keeps it", SlotEdgeTest::slotKeepsIt);
        Check.edge("promise 26", "slot: 0 or 1", SlotEdgeTest::bothSlotsBack);
        Check.edge("promise 26", "Returns the number of notes then", SlotEdgeTest::notesRestored);
        Check.edge("promise 26", "Throws IndexOutOfBoundsException if there is no such save slot",
            SlotEdgeTest::restoreFromNoSlot);
        Check.edge("promise 26", "Throws IllegalStateException if nothing has been saved in it",
            SlotEdgeTest::nothingSaved);
        Check.end();
    }

    private static SongChoir busy() {
        SongChoir x = Check.withVerses("ab", "ca");
        x.setSingers(3);
        x.forget();
        return x;
    }

    private static void presentState() {
        SongChoir x = busy();
        String saved = Check.picture(x);
        x.save(0);
        Check.same("save() changes nothing", Check.picture(x), saved);
        Check.due("save() is no action", x.undo(), 3);
        Check.due("the state of then is another one", x.about(0), 4);
        x.restore(0);
        Check.same("what is stored", Check.picture(x), saved);
    }

    private static void laterStateInItsPlace() {
        SongChoir x = busy();
        x.save(0);
        Check.sing(x, "hgf");
        Check.due("the later state", x.save(0), 5);
        x.forget();
        x.restore(0);
        Check.same("is the one that is stored", Check.song(x), "cahgf");
        x.forget();
        x.forget();
        Check.due("an empty song", x.save(0), 0);
        Check.sing(x, "ab");
        Check.due("is stored too", x.restore(0), 0);
    }

    private static void bothSlots() {
        SongChoir x = Check.withVerses("a");
        Check.due("slot 0", x.save(0), 1);
        Check.sing(x, "b");
        Check.due("slot 1", x.save(1), 2);
        Check.due("is another one than slot 0", x.restore(0), 1);
        Check.due("and keeps what was stored", x.restore(1), 2);
    }

    private static void notesSaved() {
        Check.due("of a new object", new SongChoir().save(0), 0);
        Check.due("of a new object, in slot 1", new SongChoir().save(1), 0);
        Check.due("of a song as long as can be", Check.fullSong().save(1), 48);
        SongChoir x = Check.withVerses("ab");
        x.forget();
        Check.due("behind the last verse", x.save(0), 0);
    }

    private static void saveInNoSlot() {
        SongChoir x = busy();
        for (int slot : NO_SLOTS) {
            Check.dueThrow("save(" + slot + ")", () -> x.save(slot), Check.BOUNDS);
        }
        Check.dueThrow("nothing is in slot 0", () -> x.restore(0), Check.STATE);
        Check.dueThrow("nothing is in slot 1", () -> x.restore(1), Check.STATE);
    }

    private static void stateReplaced() {
        SongChoir x = new SongChoir();
        String empty = Check.picture(x);
        x.save(0);
        Check.sing(x, "abcab");
        x.setSingers(8);
        x.again(0);
        x.restore(0);
        Check.same("by that of a new object", Check.picture(x), empty);
        SongChoir y = Check.fullSong();
        y.setSingers(8);
        y.save(1);
        Check.sing(y, "h");
        y.setSingers(1);
        y.restore(1);
        Check.same("by a full song", Check.song(y), Check.song(Check.fullSong()));
        int[] numbers = {48, 4, 8, 0, 912, 11, 0, 42, 4};
        for (int what = 0; what < numbers.length; what++) {
            Check.due("about(" + what + ") of it", y.about(what), numbers[what]);
        }
        Check.due("the singer of the last rank", y.note(36, 3), 7);
        Check.due("who hands over all to the only singer", y.setSingers(1), 42);
    }

    private static void rememberedStatesForgotten() {
        SongChoir x = new SongChoir();
        x.save(0);
        for (int i = 0; i < 20; i++) {
            x.setSingers(1 + i % 8);
        }
        x.restore(0);
        Check.dueThrow("all 14", x::undo, Check.STATE);
        Check.due("nothing is taken back", x.about(2), 1);
        for (int i = 0; i < 20; i++) {
            x.setSingers(1 + i % 8);
        }
        for (int left = 13; left >= 0; left--) {
            Check.due("14 can be remembered again", x.undo(), left);
        }
        Check.dueThrow("and no more", x::undo, Check.STATE);
        Check.due("the state of then", x.about(2), 6);
    }

    private static void slotKeepsIt() {
        SongChoir x = busy();
        x.save(1);
        String saved = Check.picture(x);
        for (int i = 0; i < 3; i++) {
            Check.sing(x, "h");
            x.restore(1);
            Check.same("each time", Check.picture(x), saved);
        }
        x.forget();
        x.undo();
        Check.same("and undo() comes back to it", Check.picture(x), saved);
    }

    private static void bothSlotsBack() {
        SongChoir x = new SongChoir();
        x.save(1);
        Check.sing(x, "ab");
        x.save(0);
        Check.due("slot 1", x.restore(1), 0);
        Check.due("slot 0", x.restore(0), 2);
    }

    private static void notesRestored() {
        SongChoir x = new SongChoir();
        x.save(0);
        Check.due("none, of none", x.restore(0), 0);
        Check.sing(x, "a");
        Check.due("none, of one", x.restore(0), 0);
        SongChoir y = Check.fullSong();
        y.save(0);
        y.forget();
        Check.due("48, of 36", y.restore(0), 48);
    }

    private static void restoreFromNoSlot() {
        SongChoir x = busy();
        x.save(0);
        x.save(1);
        x.forget();
        for (int slot : NO_SLOTS) {
            Check.dueThrow("restore(" + slot + ")", () -> x.restore(slot), Check.BOUNDS);
        }
        Check.due("the state is as it was", x.about(0), 0);
        Check.due("the remembered ones too", x.undo(), 4);
    }

    private static void nothingSaved() {
        SongChoir x = busy();
        Check.dueThrow("slot 0", () -> x.restore(0), Check.STATE);
        Check.dueThrow("slot 1", () -> x.restore(1), Check.STATE);
        x.save(1);
        Check.dueThrow("slot 0, with something in slot 1", () -> x.restore(0), Check.STATE);
        Check.due("the remembered states are there", x.undo(), 3);
        SongChoir y = busy();
        y.save(0);
        Check.dueThrow("slot 1, with something in slot 0", () -> y.restore(1), Check.STATE);
    }
}
