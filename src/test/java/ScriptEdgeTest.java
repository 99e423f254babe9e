/** The edges that the document names in promises 23 and 24: a test for each sentence. */
public final class ScriptEdgeTest {
    private static final String A12 = "a".repeat(12);

    public static void main(String[] args) {
        scripts();
        commandsThatAct();
        commandsThatAsk();
        commandsThatFail();
        answersOfScripts();
        simulations();
        Check.end();
    }

    private static void scripts() {
        String where = "promise 23";
        Check.edge(where, "Runs a script on a copy of the state", ScriptEdgeTest::onACopy);
        Check.edge(where, "A script has 1 to 3 commands", ScriptEdgeTest::oneToThreeCommands);
        Check.edge(where, "the first command is the highest group of the number", ScriptEdgeTest::highestGroupFirst);
        Check.edge(where, "(with zeros before it, if it has fewer digits)", ScriptEdgeTest::zerosBeforeIt);
        Check.edge(where, "a number of at most 5 * n digits (0 or more)", ScriptEdgeTest::mostDigits);
    }

    private static void commandsThatAct() {
        String where = "promise 23";
        Check.edge(where, "1 v v 0 0: again(vv)", ScriptEdgeTest::again);
        Check.edge(where, "2 0 0 0 0: forget()", ScriptEdgeTest::forget);
        Check.edge(where, "3 k 0 0 0: setSingers(k)", ScriptEdgeTest::setSingers);
        Check.edge(where, "4 x y z u: a verse of as many notes as there are digits of x y z u that are not 0 is sung",
            ScriptEdgeTest::asManyNotesAsDigits);
        Check.edge(where, "a digit d standing for the d-th letter from a (1 to 8)", ScriptEdgeTest::letters1To8);
        Check.edge(where, "behind a 0 no other digit than 0 may stand", ScriptEdgeTest::behindA0);
        Check.edge(where, "4 x y z u: a verse of as many notes as there are digits of x y z u that are not 0 is sung",
            ScriptEdgeTest::versesThatMakeRoom);
    }

    private static void commandsThatAsk() {
        String where = "promise 23";
        Check.edge(where, "5 0 0 n n: succeeds if the longest repeat has at least nn notes",
            ScriptEdgeTest::longestRepeatAtLeast);
        Check.edge(where, "6 0 x y z: succeeds if there are at least xyz different pieces",
            ScriptEdgeTest::piecesAtLeast);
        Check.edge(where, "7 0 0 n n: succeeds if the song has at least nn notes", ScriptEdgeTest::notesAtLeast);
        Check.edge(where, "8 l l n n: succeeds if most(ll, true) is at least nn", ScriptEdgeTest::mostAtLeast);
        Check.edge(where, "(ll from 01 to 12)", ScriptEdgeTest::lengthsFrom01To12);
        Check.edge(where, "9 0 x y z: succeeds if at most xyz notes were handed over so far",
            ScriptEdgeTest::handedOverAtMost);
    }

    private static void commandsThatFail() {
        String where = "promise 23";
        Check.edge(where, "The commands 1 to 3 fail if the method would throw an exception",
            ScriptEdgeTest::commandsThatWouldThrow);
        Check.edge(where, "commands with verses that do not exist fail", ScriptEdgeTest::versesThatDoNotExist);
        Check.edge(where, "and so does any other group", ScriptEdgeTest::anyOtherGroup);
        Check.edge(where, "(also one with another digit where a 0 is written)", ScriptEdgeTest::anotherDigitForA0);
        Check.edge(where, "vv, nn, ll and xyz are decimal numbers", ScriptEdgeTest::decimalNumbers);
    }

    private static void answersOfScripts() {
        String where = "promise 23";
        Check.edge(where, "Returns the index, from 0, of the first command that fails",
            ScriptEdgeTest::firstThatFails);
        Check.edge(where, "NONE if all succeed", ScriptEdgeTest::allSucceed);
        Check.edge(where, "n: number of commands, 1 to 3", ScriptEdgeTest::numbersInRange);
        Check.edge(where, "Throws IllegalArgumentException if n is out of range", ScriptEdgeTest::numberOutOfRange);
        Check.edge(where, "or if script is negative", ScriptEdgeTest::negativeScript);
        Check.edge(where, "or has more than 5 * n digits", ScriptEdgeTest::tooManyDigits);
    }

    private static void simulations() {
        String where = "promise 24";
        Check.edge(where, "Simulates m verses on a copy of the state", ScriptEdgeTest::simulatedOnACopy);
        Check.edge(where, "(with long overflow)", ScriptEdgeTest::longOverflow);
        Check.edge(where, "and r = (int) (x >>> 33) is computed", ScriptEdgeTest::highestBitSet);
        Check.edge(where, "Let n be the number of verses", ScriptEdgeTest::versesOfThen);
        Check.edge(where, "If r % 4 is 0 and n is not 0, the verse r / 8 % n is sung again",
            ScriptEdgeTest::withAndWithoutVerses);
        Check.edge(where, "otherwise a verse of 1 + r / 8 % 4 notes is sung", ScriptEdgeTest::shortestAndLongestVerse);
        Check.edge(where, "(0 for a)", ScriptEdgeTest::zeroForA);
        Check.edge(where, "seed: any long", ScriptEdgeTest::anySeed);
        Check.edge(where, "m: number of verses, 1 to 20", ScriptEdgeTest::oneToTwentyVerses);
        Check.edge(where, "Returns 1000 * (the longest repeat at the end)", ScriptEdgeTest::longestRepeatAtTheEnd);
        Check.edge(where, "(the notes that are handed over in them, or 999 if more)",
            ScriptEdgeTest::handedOverInThem);
        Check.edge(where, "Throws IllegalArgumentException if m is out of range", ScriptEdgeTest::versesOutOfRange);
    }

    private static SongChoir small() {
        return Check.withVerses("cab", "bage");
    }

    private static SongChoir alike() {
        return Check.withVerses(A12, A12, A12, A12);
    }

    private static void due(SongChoir x, int n, long script, int answer) {
        Check.due("runScript(" + n + ", " + script + ")", x.runScript(n, script), answer);
    }

    private static void succeeds(SongChoir x, int group) {
        due(x, 1, group, -1);
    }

    private static void fails(SongChoir x, int group) {
        due(x, 1, group, 0);
    }

    private static void onACopy() {
        SongChoir x = Check.text(small(), "ab");
        due(x, 3, 20000_20000_70001L, 2);
        due(x, 3, 38000_41234_90000L, 2);
        Check.due("the song is there", x.about(0), 7);
        due(x, 2, 70007_90000L, -1);
        due(x, 2, 20000_38000L, -1);
        Check.due("behind a script that succeeds too", x.about(0), 7);
        Check.due("with its singer", x.about(2), 1);
        Check.due("the text", x.clearText(), 2);
        Check.due("the actions that are remembered", x.undo(), 1);
    }

    private static void oneToThreeCommands() {
        SongChoir x = small();
        due(x, 1, 20000L, -1);
        due(x, 2, 20000_20000L, -1);
        due(x, 3, 20000_20000_20000L, 2);
    }

    private static void highestGroupFirst() {
        SongChoir x = small();
        due(x, 2, 20000_70007L, 1);
        due(x, 2, 70007_20000L, -1);
        due(x, 3, 70007_20000_70005L, 2);
        due(x, 3, 70007_20000_70004L, -1);
    }

    private static void zerosBeforeIt() {
        SongChoir x = small();
        // A script of fewer digits begins with groups of zeros, which are no commands.
        due(x, 2, 20000L, 0);
        due(x, 3, 20000_20000L, 0);
        due(x, 3, 20000L, 0);
        due(x, 1, 2000L, 0);
        due(x, 1, 7L, 0);
        due(x, 3, 0L, 0);
        due(x, 1, 0L, 0);
    }

    private static void mostDigits() {
        SongChoir x = small();
        due(x, 1, 0L, 0);
        due(x, 1, 90999L, -1);
        due(x, 2, 90999_90999L, -1);
        due(x, 3, 90999_90999_90999L, -1);
        due(x, 1, 99999L, 0);
        due(x, 2, 99999_99999L, 0);
        due(x, 3, 99999_99999_99999L, 0);
    }

    private static void again() {
        SongChoir x = small();
        succeeds(x, 10000);
        succeeds(x, 10100);
        fails(x, 10200);
        fails(x, 19900);
        due(x, 2, 10000_50003L, -1);
        due(x, 2, 10000_50004L, 1);
        due(x, 2, 10100_50004L, -1);
        due(x, 2, 10100_50005L, 1);
        fails(new SongChoir(), 10000);
        SongChoir y = new SongChoir();
        y.append('a');
        for (int i = 0; i < 48; i++) {
            y.sing();
        }
        succeeds(y, 14700);
        fails(y, 14800);
        due(y, 2, 14700_14700L, -1);
        due(y, 2, 14700_14800L, 1);
    }

    private static void forget() {
        SongChoir x = small();
        due(x, 2, 20000_70004L, -1);
        due(x, 2, 20000_70005L, 1);
        due(x, 3, 20000_20000_70000L, -1);
        due(x, 3, 20000_20000_70001L, 2);
        due(x, 3, 20000_20000_20000L, 2);
        fails(new SongChoir(), 20000);
    }

    private static void setSingers() {
        SongChoir x = small();
        fails(x, 30000);
        succeeds(x, 31000);
        succeeds(x, 38000);
        fails(x, 39000);
        due(x, 2, 31000_90000L, -1);
        // One singer keeps all 7; of 8, the first has none, so each of them is handed over.
        due(x, 2, 38000_90007L, -1);
        due(x, 2, 38000_90006L, 1);
        due(x, 3, 38000_38000_90007L, -1);
        succeeds(new SongChoir(), 38000);
    }

    private static void asManyNotesAsDigits() {
        int[] scripts = {42000, 42100, 42110, 42111};
        SongChoir x = new SongChoir();
        for (int i = 0; i < 4; i++) {
            due(x, 2, scripts[i] * 100000L + 70001 + i, -1);
            due(x, 2, scripts[i] * 100000L + 70002 + i, 1);
        }
        // A verse of no note is none: verses have 1 to 12.
        fails(x, 40000);
        fails(small(), 40000);
    }

    private static void letters1To8() {
        for (int d = 1; d <= 8; d++) {
            SongChoir x = Check.withVerses("abcdefgh".substring(d - 1, d));
            for (int other = 1; other <= 8; other++) {
                due(x, 2, (40000 + other * 1000) * 100000L + 50001, other == d ? -1 : 1);
            }
        }
        SongChoir y = small();
        succeeds(y, 41111);
        succeeds(y, 48888);
        fails(y, 49000);
        fails(y, 41900);
        fails(y, 41190);
        fails(y, 41119);
    }

    private static void behindA0() {
        SongChoir x = small();
        int[] wrong = {40001, 40010, 40100, 40110, 40111, 41001, 41010, 41011, 41101, 48008, 40888};
        for (int group : wrong) {
            fails(x, group);
        }
        succeeds(x, 41000);
        succeeds(x, 41100);
        succeeds(x, 41110);
    }

    private static void versesThatMakeRoom() {
        SongChoir x = Check.withVerses("h", A12, A12, A12, "bbbbbbbbbbb");
        // 48 notes: one more makes h forgotten, and four more the verse behind it too.
        due(x, 2, 41000_70048L, -1);
        due(x, 2, 41111_70039L, -1);
        due(x, 2, 41111_70040L, 1);
        due(x, 3, 20000_41000_70048L, -1);
        due(x, 3, 20000_41100_70038L, 2);
    }

    private static void longestRepeatAtLeast() {
        SongChoir x = new SongChoir();
        succeeds(x, 50000);
        fails(x, 50001);
        SongChoir y = small();
        succeeds(y, 50000);
        succeeds(y, 50001);
        fails(y, 50002);
        SongChoir z = alike();
        succeeds(z, 50047);
        fails(z, 50048);
        fails(z, 50099);
    }

    private static void piecesAtLeast() {
        SongChoir x = new SongChoir();
        succeeds(x, 60000);
        fails(x, 60001);
        SongChoir y = small();
        succeeds(y, 60026);
        fails(y, 60027);
        SongChoir z = Check.fullSong();
        succeeds(z, 60912);
        fails(z, 60913);
        fails(z, 60999);
        SongChoir w = Check.withVerses("abcdefghaceg", "bdfhadgbehcf", "aabbccddeeff", "gghhbafehgdc");
        Check.holds("more than 999 pieces", w.about(4) > 999);
        succeeds(w, 60999);
        fails(w, 61000);
    }

    private static void notesAtLeast() {
        SongChoir x = new SongChoir();
        succeeds(x, 70000);
        fails(x, 70001);
        SongChoir y = small();
        succeeds(y, 70007);
        fails(y, 70008);
        SongChoir z = alike();
        succeeds(z, 70048);
        fails(z, 70049);
        fails(z, 70099);
    }

    private static void mostAtLeast() {
        SongChoir x = new SongChoir();
        succeeds(x, 80100);
        fails(x, 80101);
        SongChoir y = small();
        succeeds(y, 80102);
        fails(y, 80103);
        succeeds(y, 80701);
        fails(y, 80702);
        succeeds(y, 80800);
        fails(y, 80801);
        SongChoir z = alike();
        succeeds(z, 80148);
        fails(z, 80149);
        succeeds(z, 81237);
        fails(z, 81238);
    }

    private static void lengthsFrom01To12() {
        SongChoir x = alike();
        fails(x, 80000);
        fails(x, 80001);
        succeeds(x, 80101);
        succeeds(x, 81201);
        fails(x, 81300);
        fails(x, 81301);
        fails(x, 89900);
    }

    private static void handedOverAtMost() {
        SongChoir x = small();
        succeeds(x, 90000);
        x.setSingers(3);
        succeeds(x, 90005);
        fails(x, 90004);
        fails(x, 90000);
        succeeds(x, 90999);
        // So far is before the script too, and in it: 5 notes, and 4 to have two singers again.
        due(x, 2, 32000_90009L, -1);
        due(x, 2, 32000_90008L, 1);
        SongChoir y = Check.fullSong();
        for (int i = 0; i < 23; i++) {
            y.setSingers(i % 2 == 0 ? 8 : 1);
        }
        y.setSingers(2);
        Check.due("notes that were handed over", y.about(7), 24 * 42);
        fails(y, 90999);
        y.undo();
        Check.due("and one action less", y.about(7), 966);
        succeeds(y, 90966);
        fails(y, 90965);
    }

    private static void commandsThatWouldThrow() {
        SongChoir x = small();
        fails(x, 10200);
        fails(x, 30000);
        fails(x, 39000);
        SongChoir y = new SongChoir();
        fails(y, 10000);
        fails(y, 20000);
        due(y, 2, 31000_20000L, 1);
        due(y, 3, 41000_20000_10000L, 2);
        due(y, 3, 41000_20000_20000L, 2);
    }

    private static void versesThatDoNotExist() {
        SongChoir x = small();
        succeeds(x, 10100);
        fails(x, 10200);
        due(x, 2, 20000_10100L, 1);
        due(x, 2, 41000_10200L, -1);
        due(x, 2, 41000_10300L, 1);
    }

    /** Each group there is, as the document once more by strings takes it. */
    private static void anyOtherGroup() {
        PlainChoir plain = PlainChoir.withVerses("cab", "bage");
        SongChoir x = small();
        int wrong = 0;
        for (int group = 0; group < 100000; group++) {
            if (group % 400 == 0) {
                x = small();
            }
            if (x.runScript(1, group) != plain.runScript(1, group)) {
                wrong++;
            }
        }
        Check.due("groups that are taken otherwise", wrong, 0);
        for (int group = 0; group < 10000; group += 1111) {
            fails(small(), group);
        }
    }

    private static void anotherDigitForA0() {
        SongChoir x = small();
        x.setSingers(2);
        int[] groups = {10000, 20000, 31000, 50000, 60000, 70000, 90999};
        int[][] zeros = {{10, 1}, {1000, 100, 10, 1}, {100, 10, 1}, {1000, 100}, {1000}, {1000, 100}, {1000}};
        for (int i = 0; i < groups.length; i++) {
            succeeds(x, groups[i]);
            for (int zero : zeros[i]) {
                fails(x, groups[i] + zero);
                fails(x, groups[i] + 9 * zero);
            }
        }
    }

    private static void decimalNumbers() {
        SongChoir x = new SongChoir();
        x.append('a');
        for (int i = 0; i < 10; i++) {
            x.sing();
        }
        succeeds(x, 70008);
        succeeds(x, 70009);
        succeeds(x, 70010);
        fails(x, 70011);
        succeeds(x, 50009);
        fails(x, 50010);
        succeeds(x, 60010);
        fails(x, 60011);
        succeeds(x, 80901);
        succeeds(x, 81001);
        succeeds(x, 80110);
        succeeds(x, 10900);
        fails(x, 11000);
        due(x, 2, 10900_11000L, -1);
        x.setSingers(8);
        // Each of 10 suffixes but that of rank 0.
        Check.due("notes that were handed over", x.about(7), 9);
        succeeds(x, 90009);
        succeeds(x, 90010);
        fails(x, 90008);
    }

    private static void firstThatFails() {
        SongChoir x = small();
        due(x, 3, 0_00000_00000L, 0);
        due(x, 3, 20001_20000_20000L, 0);
        due(x, 3, 20000_20001_20000L, 1);
        due(x, 3, 20000_20000_20001L, 2);
        due(x, 3, 20000_20001_20001L, 1);
        due(x, 2, 20000_20001L, 1);
        due(x, 2, 20001_20000L, 0);
    }

    private static void allSucceed() {
        SongChoir x = small();
        due(x, 1, 70007L, -1);
        due(x, 2, 70007_70007L, -1);
        due(x, 3, 70007_70007_70007L, -1);
    }

    private static void numbersInRange() {
        SongChoir x = small();
        Check.dueThrow("none", () -> x.runScript(0, 0L), Check.ARGUMENT);
        due(x, 1, 0L, 0);
        due(x, 2, 0L, 0);
        due(x, 3, 0L, 0);
        Check.dueThrow("four", () -> x.runScript(4, 0L), Check.ARGUMENT);
    }

    private static void numberOutOfRange() {
        SongChoir x = small();
        for (int n : new int[] {Integer.MIN_VALUE, -1, 0, 4, 5, Integer.MAX_VALUE}) {
            Check.dueThrow("runScript(" + n + ", 0)", () -> x.runScript(n, 0L), Check.ARGUMENT);
            Check.dueThrow("runScript(" + n + ", 20000)", () -> x.runScript(n, 20000L), Check.ARGUMENT);
        }
    }

    private static void negativeScript() {
        SongChoir x = small();
        for (int n = 1; n <= 3; n++) {
            int commands = n;
            Check.dueThrow("-1", () -> x.runScript(commands, -1L), Check.ARGUMENT);
            Check.dueThrow("-20000", () -> x.runScript(commands, -20000L), Check.ARGUMENT);
            Check.dueThrow("the least script", () -> x.runScript(commands, Long.MIN_VALUE), Check.ARGUMENT);
        }
    }

    private static void tooManyDigits() {
        SongChoir x = small();
        Check.dueThrow("6 for 1", () -> x.runScript(1, 100000L), Check.ARGUMENT);
        Check.dueThrow("6 for 1, of which 5 are a command", () -> x.runScript(1, 120000L), Check.ARGUMENT);
        Check.dueThrow("10 for 1", () -> x.runScript(1, 20000_20000L), Check.ARGUMENT);
        Check.dueThrow("11 for 2", () -> x.runScript(2, 1_00000_00000L), Check.ARGUMENT);
        Check.dueThrow("16 for 3", () -> x.runScript(3, 1_00000_00000_00000L), Check.ARGUMENT);
        for (int n = 1; n <= 3; n++) {
            int commands = n;
            Check.dueThrow("19 digits", () -> x.runScript(commands, Long.MAX_VALUE), Check.ARGUMENT);
            Check.dueThrow("2 to the 62nd", () -> x.runScript(commands, 1L << 62), Check.ARGUMENT);
        }
    }

    private static void simulatedOnACopy() {
        SongChoir x = Check.text(three(), "ab");
        Check.due("the first time", x.simulate(0, 20), 6090);
        Check.due("the second time", x.simulate(0, 20), 6090);
        Check.due("notes", x.about(0), 10);
        Check.due("verses that were sung", x.about(8), 3);
        Check.due("notes that were handed over", x.about(7), 8);
        Check.due("the text", x.clearText(), 2);
        Check.due("the actions that are remembered", x.undo(), 3);
    }

    private static SongChoir three() {
        SongChoir x = Check.withVerses("ab", "cde", "fghab");
        x.setSingers(5);
        return x;
    }

    private static void dueSimulated(long seed, int ofNew, int ofThree) {
        Check.due("new, seed " + seed, new SongChoir().simulate(seed, 20), ofNew);
        Check.due("three verses, seed " + seed, three().simulate(seed, 20), ofThree);
    }

    private static void longOverflow() {
        // Each of them leaves the range of a long at the first verse already, or at the second one.
        dueSimulated(0, 8000, 6090);
        dueSimulated(1, 7000, 8083);
        dueSimulated(1L << 33, 5000, 8088);
        dueSimulated(-(1L << 33), 6000, 5082);
    }

    private static void highestBitSet() {
        // Behind seed -1 the first x is negative, and r is not.
        Check.due("seed -1: ab", new SongChoir().simulate(-1, 1), 0);
        Check.due("seed -1: ab, bca", new SongChoir().simulate(-1, 2), 1000);
        Check.due("seed -1: the third verse again", three().simulate(-1, 1), 5001);
    }

    private static void versesOfThen() {
        // Behind seed 0 the second verse is one that is sung again: the first one, cacc, if no other is there.
        Check.due("the verse that was simulated", new SongChoir().simulate(0, 2), 4000);
        SongChoir x = Check.withVerses("ab");
        x.forget();
        Check.due("and not one that is forgotten", x.simulate(0, 2), 4000);
    }

    private static void withAndWithoutVerses() {
        // Behind seed 2, r is 206214717 * 8: cc is sung, or verse 206214717 % n again.
        Check.due("without a verse, cc", new SongChoir().simulate(2, 1), 1000);
        Check.due("with one verse, that one", Check.withVerses("abcdef").simulate(2, 1), 6000);
        Check.due("of three verses, the first one", Check.withVerses("ab", "cde", "fgh").simulate(2, 1), 2000);
        Check.due("of two verses, the second one", Check.withVerses("ab", "cde").simulate(2, 1), 3000);
        // r % 4 is 2 behind seed 1: bbb, whether there is a verse or not.
        Check.due("with a verse, bbb", Check.withVerses("abc").simulate(1, 1), 2000);
        SongChoir x = Check.withVerses("abcdef");
        x.forget();
        Check.due("behind the last verse, cc", x.simulate(2, 1), 1000);
    }

    private static void shortestAndLongestVerse() {
        Check.due("seed 3: c alone", new SongChoir().simulate(3, 1), 0);
        Check.due("behind c", Check.withVerses("c").simulate(3, 1), 1000);
        Check.due("seed -54: aaaa", new SongChoir().simulate(-54, 1), 3000);
        Check.due("seed 0: cacc", Check.withVerses("cacc").simulate(0, 1), 4000);
        Check.due("seed 0: and no fifth note", Check.withVerses("cacccacc").simulate(0, 1), 8000);
    }

    private static void zeroForA() {
        Check.due("seed -367: a", Check.withVerses("ac").simulate(-367, 1), 1000);
        Check.due("seed -393: aaaa", Check.withVerses("aaaac").simulate(-393, 1), 4000);
        Check.due("seed 1: bbb", Check.withVerses("bbbc").simulate(1, 1), 3000);
        Check.due("seed 3: c", Check.withVerses("ca").simulate(3, 1), 1000);
    }

    private static void anySeed() {
        dueSimulated(Long.MAX_VALUE, 6000, 6057);
        dueSimulated(Long.MIN_VALUE, 6000, 6085);
        dueSimulated(-1, 11000, 5073);
        Check.due("the greatest, one verse", three().simulate(Long.MAX_VALUE, 1), 2005);
        Check.due("the least, one verse", three().simulate(Long.MIN_VALUE, 1), 3007);
    }

    private static void oneToTwentyVerses() {
        SongChoir x = three();
        Check.dueThrow("0 verses", () -> x.simulate(0, 0), Check.ARGUMENT);
        Check.due("1 verse", x.simulate(0, 1), 3003);
        Check.due("2 verses", x.simulate(0, 2), 3007);
        Check.due("20 verses", x.simulate(0, 20), 6090);
        Check.dueThrow("21 verses", () -> x.simulate(0, 21), Check.ARGUMENT);
    }

    private static void longestRepeatAtTheEnd() {
        Check.due("none: c", new SongChoir().simulate(3, 1), 0);
        Check.due("as long as can be", alike().simulate(2, 1), 47000);
        SongChoir x = alike();
        x.setSingers(8);
        Check.due("and 36 notes that are handed over", x.simulate(2, 1), 47036);
    }

    private static void handedOverInThem() {
        SongChoir x = small();
        Check.due("with one singer", x.simulate(0, 20) % 1000, 0);
        SongChoir y = three();
        Check.due("in one verse", y.simulate(0, 1) % 1000, 3);
        Check.due("in both of two", y.simulate(0, 2) % 1000, 7);
        Check.due("not those of before", y.about(7), 8);
        // No run hands over 999 notes: 20 verses on a full song move 47 each at most. This is a dear one.
        SongChoir z = Check.withVerses(A12, "b".repeat(12), "c".repeat(12), "h".repeat(12));
        z.setSingers(8);
        Check.due("many", z.simulate(2621, 20), 24351);
    }

    private static void versesOutOfRange() {
        SongChoir x = small();
        for (int m : new int[] {Integer.MIN_VALUE, -20, -1, 0, 21, 256, Integer.MAX_VALUE}) {
            Check.dueThrow("simulate(0, " + m + ")", () -> x.simulate(0, m), Check.ARGUMENT);
            Check.dueThrow("simulate(-1, " + m + ")", () -> x.simulate(-1, m), Check.ARGUMENT);
        }
    }
}
