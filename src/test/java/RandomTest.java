import java.util.Random;

/** Long runs of calls, all promises in one another's company, each answer held against PlainChoir. */
public final class RandomTest {
    private static final int RUNS = 160;
    private static final int CALLS = 512;
    private static final int[] FAR = {Integer.MIN_VALUE, -1, 48, 100, 255, 256, Integer.MAX_VALUE};

    private final Random random;
    private final int letters;
    private final int longest;
    private final int actionsInTen;
    private final SongChoir x = new SongChoir();
    private final PlainChoir plain = new PlainChoir();
    private final int run;
    private int calls = 0;

    private RandomTest(int run) {
        this.run = run;
        random = new Random(run);
        letters = run % 9 == 8 ? 8 : 1 + run % 4;
        longest = run % 5 == 0 ? 12 : 1 + run % 5;
        actionsInTen = 2 + run % 7;
    }

    /** An object answers as promised up to its 512th call. */
    private void ask(String call, Check.Call program, Check.Call model) {
        if (calls == CALLS) {
            return;
        }
        calls++;
        String where = new StringBuilder("run ").append(run).append(": ").append(call).toString();
        Check.same(where, Check.outcome(program), Check.outcome(model));
    }

    /** Mostly below the bound, now and then at or beyond an end. */
    private int number(int bound) {
        int dice = random.nextInt(24);
        if (dice == 0) {
            return FAR[random.nextInt(FAR.length)];
        }
        return dice == 1 ? bound : random.nextInt(Math.max(1, bound));
    }

    private void step() {
        if (random.nextInt(10) < actionsInTen) {
            act();
        } else if (random.nextInt(4) == 0) {
            changeText();
        } else if (random.nextInt(3) == 0) {
            tryOut();
        } else {
            look();
        }
    }

    private void changeText() {
        int dice = random.nextInt(8);
        if (dice == 0) {
            int c = number(256);
            ask("append(" + c + ")", () -> x.append(c), () -> plain.append(c));
            return;
        }
        if (dice < 5) {
            ask("clearText()", x::clearText, plain::clearText);
        }
        int n = random.nextInt(20) == 0 ? 41 : 1 + random.nextInt(longest);
        for (int i = 0; i < n; i++) {
            int c = 'a' + random.nextInt(letters);
            ask("append(" + c + ")", () -> x.append(c), () -> plain.append(c));
        }
    }

    private void act() {
        int dice = random.nextInt(20);
        int v = number(plain.about(1));
        int k = 1 + number(8);
        int slot = random.nextInt(12) == 0 ? number(3) : random.nextInt(2);
        if (dice < 7) {
            ask("sing()", x::sing, plain::sing);
        } else if (dice < 11) {
            ask("again(" + v + ")", () -> x.again(v), () -> plain.again(v));
        } else if (dice < 13) {
            ask("forget()", x::forget, plain::forget);
        } else if (dice < 16) {
            ask("setSingers(" + k + ")", () -> x.setSingers(k), () -> plain.setSingers(k));
        } else if (dice < 18) {
            ask("undo()", x::undo, plain::undo);
        } else if (dice < 19) {
            ask("save(" + slot + ")", () -> x.save(slot), () -> plain.save(slot));
        } else {
            ask("restore(" + slot + ")", () -> x.restore(slot), () -> plain.restore(slot));
        }
    }

    private void look() {
        int place = number(plain.about(0));
        int verse = number(plain.about(1));
        int other = number(plain.about(1));
        int singer = number(plain.about(2));
        int of9 = number(9);
        int of5 = number(5);
        int of3 = number(3);
        int times = number(4);
        int length = number(6) + 1;
        boolean told = random.nextBoolean();
        switch (random.nextInt(11)) {
            case 0:
                ask("errorPosition()", x::errorPosition, plain::errorPosition);
                break;
            case 1:
            case 2:
                ask("about(" + of9 + ")", () -> x.about(of9), () -> plain.about(of9));
                break;
            case 3:
                ask("note(" + place + ", " + of5 + ")", () -> x.note(place, of5), () -> plain.note(place, of5));
                break;
            case 4:
                ask("suffix(" + place + ")", () -> x.suffix(place), () -> plain.suffix(place));
                break;
            case 5:
                ask("verse(" + verse + ", " + of3 + ")", () -> x.verse(verse, of3), () -> plain.verse(verse, of3));
                break;
            case 6:
                ask("singer(" + singer + ", " + of3 + ")", () -> x.singer(singer, of3),
                    () -> plain.singer(singer, of3));
                break;
            case 7:
                ask("count()", x::count, plain::count);
                ask("known()", x::known, plain::known);
                break;
            case 8:
                ask("placeOf(" + times + ")", () -> x.placeOf(times), () -> plain.placeOf(times));
                break;
            case 9:
                ask("common(" + verse + ", " + other + ")", () -> x.common(verse, other),
                    () -> plain.common(verse, other));
                break;
            default:
                ask("most(" + length + ", " + told + ")", () -> x.most(length, told),
                    () -> plain.most(length, told));
        }
    }

    private void tryOut() {
        int dice = random.nextInt(12);
        int n = 1 + number(3);
        long script = script(n);
        int m = number(21);
        long seed = random.nextLong();
        if (dice < 2) {
            ask("wouldRepeat()", x::wouldRepeat, plain::wouldRepeat);
        } else if (dice < 4) {
            ask("bestSingers()", x::bestSingers, plain::bestSingers);
        } else if (dice < 5) {
            ask("bestAgain()", x::bestAgain, plain::bestAgain);
        } else if (dice < 11) {
            ask("runScript(" + n + ", " + script + ")", () -> x.runScript(n, script),
                () -> plain.runScript(n, script));
        } else {
            ask("simulate(" + seed + ", " + m + ")", () -> x.simulate(seed, m), () -> plain.simulate(seed, m));
        }
    }

    private long script(int n) {
        if (random.nextInt(10) == 0) {
            return random.nextLong() >> random.nextInt(64);
        }
        long script = 0;
        for (int i = 0; i < n && i < 3; i++) {
            script = script * 100000 + group();
        }
        return script;
    }

    private int group() {
        int kind = random.nextInt(10);
        int wrong = random.nextInt(12) == 0 ? random.nextInt(1000) : 0;
        int few = random.nextInt(20);
        int near = random.nextInt(3) - 1;
        switch (kind) {
            case 1:
                return 10000 + random.nextInt(plain.about(1) + 2) % 100 * 100 + wrong;
            case 2:
                return 20000 + wrong;
            case 3:
                return 30000 + random.nextInt(10) * 1000 + wrong;
            case 4:
                int[] some = {1234, 1000, 2200, 3330, 1111, 8888, 9000, 1020, 100, 0, 2121, 1 + few};
                return 40000 + some[random.nextInt(some.length)];
            case 5:
                return 50000 + wrong + Math.max(0, plain.about(5) + near);
            case 6:
                return 60000 + wrong + Math.max(0, Math.min(999, plain.about(4) + near));
            case 7:
                return 70000 + wrong + Math.max(0, plain.about(0) + near);
            case 8:
                return 80000 + random.nextInt(14) * 100 + few % 7;
            case 9:
                return 90000 + wrong + Math.max(0, Math.min(999, plain.about(7) + near));
            default:
                return random.nextInt(100000);
        }
    }

    public static void main(String[] args) {
        for (int run = 0; run < RUNS; run++) {
            RandomTest test = new RandomTest(run);
            for (int i = 0; test.calls < CALLS && i < CALLS; i++) {
                test.step();
            }
        }
        Check.end();
    }
}
