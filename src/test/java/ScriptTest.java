/** Promises 23 and 24: scripts and simulations. */
public final class ScriptTest {
    public static void main(String[] args) {
        arguments();
        commandsThatSing();
        commandsThatChange();
        commandsThatAsk();
        badGroups();
        sequences();
        simulations();
        nothingChanges();
        Check.end();
    }

    private static SongChoir song() {
        return Check.withVerses("cab", "bage");
    }

    private static void succeeds(SongChoir x, int group) {
        Check.due("promise 23: " + group, x.runScript(1, group), -1);
    }

    private static void fails(SongChoir x, int group) {
        Check.due("promise 23: " + group, x.runScript(1, group), 0);
    }

    private static void arguments() {
        SongChoir x = song();
        Check.dueThrow("promise 23: no command", () -> x.runScript(0, 0), Check.ARGUMENT);
        Check.dueThrow("promise 23: 4 commands", () -> x.runScript(4, 20000L), Check.ARGUMENT);
        Check.dueThrow("promise 23: -1 commands", () -> x.runScript(-1, 20000L), Check.ARGUMENT);
        Check.dueThrow("promise 23: a negative script", () -> x.runScript(1, -1L), Check.ARGUMENT);
        Check.dueThrow("promise 23: the least script", () -> x.runScript(3, Long.MIN_VALUE), Check.ARGUMENT);
        Check.dueThrow("promise 23: 6 digits for 1", () -> x.runScript(1, 100000L), Check.ARGUMENT);
        Check.dueThrow("promise 23: 11 digits for 2", () -> x.runScript(2, 10000000000L), Check.ARGUMENT);
        Check.dueThrow("promise 23: 16 digits for 3", () -> x.runScript(3, 1000000000000000L), Check.ARGUMENT);
        Check.dueThrow("promise 23: the greatest script", () -> x.runScript(3, Long.MAX_VALUE), Check.ARGUMENT);
        Check.due("promise 23: 5 digits for 1", x.runScript(1, 99999L), 0);
        Check.due("promise 23: 10 digits for 2", x.runScript(2, 9999999999L), 0);
        Check.due("promise 23: 15 digits for 3", x.runScript(3, 999999999999999L), 0);
        Check.due("promise 23: zeros before a number are no command", x.runScript(2, 20000L), 0);
        Check.due("promise 23: nothing but zeros", x.runScript(3, 0L), 0);
    }

    private static void commandsThatSing() {
        SongChoir x = song();
        succeeds(x, 10000);
        succeeds(x, 10100);
        fails(x, 10200);
        fails(x, 19900);
        fails(x, 10001);
        fails(x, 10010);
        fails(new SongChoir(), 10000);
        succeeds(x, 41000);
        succeeds(x, 48888);
        succeeds(x, 41200);
        succeeds(x, 41230);
        fails(x, 49000);
        fails(x, 41119);
        fails(x, 40001);
        fails(x, 41011);
        fails(x, 41101);
        fails(x, 40100);
        // A verse of no notes is none: the document gives verses 1 to 12.
        fails(x, 40000);
        Check.due("promise 23: 4 sings as many notes", x.runScript(2, 41234_70011L), -1);
        Check.due("promise 23: and no more", x.runScript(2, 41234_70012L), 1);
        Check.due("promise 23: a to d make no long repeat", x.runScript(2, 41234_50002L), -1);
        Check.due("promise 23: cabb makes one of 4", x.runScript(2, 43122_50004L), -1);
        Check.due("promise 23: and not of 5", x.runScript(2, 43122_50005L), 1);
        Check.due("promise 23: again(0) brings cab", x.runScript(2, 10000_70010L), -1);
        Check.due("promise 23: and no more", x.runScript(2, 10000_70011L), 1);
        Check.due("promise 23: again(1) brings bage", x.runScript(2, 10100_50004L), -1);
        Check.due("promise 23: and not 5 notes", x.runScript(2, 10100_70012L), 1);
    }

    private static void commandsThatChange() {
        SongChoir x = song();
        succeeds(x, 20000);
        fails(x, 20001);
        fails(x, 21000);
        fails(new SongChoir(), 20000);
        Check.due("promise 23: two verses can go, not three", x.runScript(3, 20000_20000_20000L), 2);
        Check.due("promise 23: 4 notes are left", x.runScript(2, 20000_70005L), 1);
        succeeds(x, 31000);
        succeeds(x, 38000);
        fails(x, 30000);
        fails(x, 39000);
        fails(x, 33001);
        fails(x, 33100);
        Check.due("promise 23: 3 singers take 5 notes", x.runScript(2, 33000_90005L), -1);
        Check.due("promise 23: which are not at most 4", x.runScript(2, 33000_90004L), 1);
    }

    private static void commandsThatAsk() {
        SongChoir x = song();
        x.setSingers(3);
        succeeds(x, 50000);
        succeeds(x, 50001);
        fails(x, 50002);
        fails(x, 50100);
        fails(x, 51000);
        succeeds(x, 60026);
        fails(x, 60027);
        fails(x, 60999);
        fails(x, 61000);
        succeeds(x, 70007);
        fails(x, 70008);
        fails(x, 70100);
        fails(x, 71000);
        succeeds(x, 80102);
        fails(x, 80103);
        succeeds(x, 80701);
        fails(x, 80801);
        succeeds(x, 80800);
        succeeds(x, 81200);
        fails(x, 81300);
        fails(x, 80000);
        fails(x, 89901);
        succeeds(x, 90005);
        succeeds(x, 90999);
        fails(x, 90004);
        fails(x, 91000);
        fails(x, 91005);
        SongChoir y = Check.withVerses("abcdefghaceg", "bdfhadgbehcf", "aabbccddeeff", "gghhbafehgdc");
        Check.holds("promise 23: a song of over 1000 pieces", y.about(4) > 1000);
        succeeds(y, 60999);
        fails(y, 61000);
    }

    private static void badGroups() {
        SongChoir x = song();
        fails(x, 0);
        fails(x, 1);
        fails(x, 9999);
    }

    private static void sequences() {
        SongChoir x = song();
        Check.due("promise 23: all three", x.runScript(3, 10000_20000_38000L), -1);
        Check.due("promise 23: the first one", x.runScript(3, 10200_20000_38000L), 0);
        Check.due("promise 23: the second one", x.runScript(3, 10000_20001_39000L), 1);
        Check.due("promise 23: the third one", x.runScript(3, 10000_20000_39000L), 2);
        Check.due("promise 23: what is sung can be sung again", x.runScript(3, 41000_10200_10400L), 2);
    }

    private static void simulations() {
        SongChoir x = new SongChoir();
        Check.dueThrow("promise 24: no verse", () -> x.simulate(1, 0), Check.ARGUMENT);
        Check.dueThrow("promise 24: 21 verses", () -> x.simulate(1, 21), Check.ARGUMENT);
        Check.dueThrow("promise 24: -1 verses", () -> x.simulate(1, -1), Check.ARGUMENT);
        long[] seeds = {0, 1, -1, 3, 42, 1234567890123L, Long.MAX_VALUE, Long.MIN_VALUE};
        SongChoir busy = Check.withVerses("cab", "bage", "aaaaaaaaaaaa", "abababababab", "gfedc");
        PlainChoir plain = new PlainChoir();
        PlainChoir busyPlain = PlainChoir.withVerses("cab", "bage", "aaaaaaaaaaaa", "abababababab", "gfedc");
        busy.setSingers(5);
        busyPlain.setSingers(5);
        for (long seed : seeds) {
            for (int m = 1; m <= 20; m += seed == 0 ? 1 : 19) {
                Check.due("promise 24: new, seed " + seed, x.simulate(seed, m), plain.simulate(seed, m));
                Check.due("promise 24: busy, seed " + seed, busy.simulate(seed, m), busyPlain.simulate(seed, m));
            }
        }
        x.setSingers(8);
        Check.due("promise 24: as told under ../shared/tests", x.simulate(1, 20), 7130);
    }

    private static void nothingChanges() {
        SongChoir x = Check.text(song(), "gg");
        x.setSingers(3);
        String before = Check.picture(x);
        x.runScript(3, 10000_20000_38000L);
        x.runScript(2, 48888_10900L);
        x.simulate(77, 20);
        Check.same("promises 23 and 24: nothing is changed", Check.picture(x), before);
        Check.due("promises 23 and 24: nothing is remembered", x.undo(), 2);
        Check.due("promises 23 and 24: the text stays", x.clearText(), 2);
    }
}
