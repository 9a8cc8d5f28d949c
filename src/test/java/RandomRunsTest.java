/** Random runs of calls on the class and on PlainPlayer: all answers are the same, and none throws. */
public final class RandomRunsTest {
    private static final int RUNS = 4000;
    /** No more is promised of one object. */
    private static final int CALLS_A_RUN = 512;
    private static final int CALLS_AT_THE_END = 60;
    private static final int[] STRANGE = {
        Integer.MIN_VALUE, Integer.MIN_VALUE + 1, -65536, -257, -256, -129, -128, -9, -8, -2, -1, 0, 1, 2, 3, 4,
        7, 8, 15, 16, 31, 32, 63, 64, 65, 127, 128, 129, 255, 256, 399, 400, 401, 1999, 2000, 2001, 2002,
        8999, 9000, 536870911, 536870912, Integer.MAX_VALUE - 1, Integer.MAX_VALUE,
    };

    private final ModulePlayer mine;
    private final PlainPlayer plain;
    private final String name;
    private long seed;
    private int calls;

    private RandomRunsTest(int run) {
        name = "run " + run + ": ";
        seed = run * 2862933555777941757L + 3037000493L;
        int rate = below(4) == 0 ? strange() : 2000 + below(3) * below(7001);
        mine = new ModulePlayer(rate);
        plain = new PlainPlayer(rate);
    }

    public static void main(String[] args) {
        for (int run = 0; run < RUNS; run++) {
            RandomRunsTest test = new RandomRunsTest(run);
            if (run % 3 == 0) {
                test.feedModule();
            } else {
                test.tellModule();
            }
            if (run % 4 == 0) {
                test.breakTape();
            }
            // The dearest step asks a dozen times.
            while (test.calls < CALLS_A_RUN - CALLS_AT_THE_END - 12) {
                test.oneCall();
            }
            test.compareBytes();
        }
        Due.end();
    }

    /** A generator of its own, so that each run is the same on every machine. */
    private int below(int n) {
        seed = seed * 6364136223846793005L + 1442695040888963407L;
        return (int) ((seed >>> 33) % n);
    }

    private int strange() {
        return STRANGE[below(STRANGE.length)];
    }

    /** Mostly a number below n, else a strange one. */
    private int some(int n) {
        return below(12) == 0 ? strange() : below(n);
    }

    private void is(String call, long got, long want) {
        calls++;
        Due.is(name + call, got, want);
    }

    private void is(String call, boolean got, boolean want) {
        is(call, got ? 1 : 0, want ? 1 : 0);
    }

    private int cellNumber() {
        int[] periods = {0, 0, 0, 113, 120, 214, 320, 428, 570, 850, 856, 1, 112, 857, 4095};
        int period = below(6) == 0 ? below(4096) : periods[below(periods.length)];
        int sample = below(2) == 0 ? 0 : below(6);
        int effect = below(3) == 0 ? 14 : below(16);
        int number = below(256);
        if (effect == 14 && below(2) == 0) {
            int[] often = {0x60, 0x61, 0x62, 0xD1, 0xD2, 0xD3, 0x91, 0x92, 0xC0, 0xC1, 0xC2, 0xE1, 0xE2};
            number = often[below(often.length)];
        } else if (effect == 15) {
            number = below(3) != 0 ? below(8) : 32 + below(224);
        } else if (effect == 11) {
            number = below(8);
        } else if (effect == 13 && below(2) == 0) {
            number = below(16);
        } else if (effect == 9) {
            number = below(9);
        }
        return Cells.of(period, sample, effect, number);
    }

    private void tellModule() {
        for (int s = 1; s <= 5; s++) {
            tellSample(s);
        }
        int patterns = 1 + below(3);
        int rows = 4 + below(60);
        for (int i = 0; i < 120; i++) {
            int pattern = below(patterns);
            int row = below(3) == 0 ? 63 - below(3) : below(rows);
            int channel = below(4);
            int what = cellNumber();
            is("cell", mine.cell(pattern, row, channel, what), plain.cell(pattern, row, channel, what));
        }
        int n = 1 + below(5);
        int restart = below(7);
        is("song", mine.song(n, restart), plain.song(n, restart));
        for (int i = 0; i < 6; i++) {
            int pattern = below(patterns);
            is("place", mine.place(i, pattern), plain.place(i, pattern));
        }
    }

    private void tellSample(int s) {
        int length = 2 * (below(3) == 0 ? below(1001) : below(30));
        int tune = below(16) - 8;
        int volume = below(65);
        is("sample", mine.sample(s, length, tune, volume), plain.sample(s, length, tune, volume));
        for (int i = 0; i < 12; i++) {
            int at = below(length + 1);
            int v = below(256) - 128;
            is("wave", mine.wave(s, at, v), plain.wave(s, at, v));
        }
        int start = 2 * below(length / 2 + 2);
        int loop = 2 * below(length / 2 + 2);
        is("loop", mine.loop(s, start, loop), plain.loop(s, start, loop));
    }

    private void poke(int at, int v) {
        is("poke", mine.poke(at, v), plain.poke(at, v));
    }

    /** A module of one PATTERN comes as bytes; its SAMPLES have as many as are fed. */
    private void feedModule() {
        int[] mark = {77, 46, 75, 46};
        for (int i = 0; i < 4; i++) {
            poke(1080 + i, mark[i]);
        }
        poke(950, 1 + below(4));
        poke(951, below(5));
        for (int s = 0; s < 5; s++) {
            int half = 1 + below(18);
            int start = below(half);
            poke(43 + 30 * s, half);
            poke(44 + 30 * s, below(16));
            poke(45 + 30 * s, below(65));
            poke(47 + 30 * s, start);
            poke(49 + 30 * s, below(half - start + 1));
        }
        for (int i = 0; i < 51; i++) {
            is("feed", feed(true), 1104 + 20 * i);
        }
        for (int i = 0; i < 11; i++) {
            is("feed", feed(false), 2124 + 20 * i);
        }
        is("load", mine.load(), plain.load());
    }

    private int feed(boolean cells) {
        int[] n = new int[5];
        for (int i = 0; i < 5; i++) {
            n[i] = cells ? cellBytes(below(3) == 0 ? cellNumber() : 0) : below(1 << 30) * 4 + below(4);
        }
        plain.feed(n[0], n[1], n[2], n[3], n[4]);
        return mine.feed(n[0], n[1], n[2], n[3], n[4]);
    }

    private int cellBytes(int cell) {
        int period = cell / 131072;
        int sample = cell / 4096 % 32;
        return (sample / 16 * 16 + period / 256) << 24 | period % 256 << 16
                | (sample % 16 * 16 + cell / 256 % 16) << 8 | cell % 256;
    }

    /** The module's bytes, some of them wrong, are read. */
    private void breakTape() {
        is("save", mine.save(), plain.save());
        int wrong = below(4);
        for (int i = 0; i < wrong; i++) {
            int at = below(2) == 0 ? 20 + below(1070) : 42 + 30 * below(31) + below(8);
            poke(at, below(2) == 0 ? below(256) : below(17));
        }
        is("load", mine.load(), plain.load());
        is("fault", mine.fault(0), plain.fault(0));
        is("fault", mine.fault(1), plain.fault(1));
    }

    private void oneCall() {
        switch (below(12)) {
            case 0: tapeCall(); break;
            case 1: moduleCall(); break;
            case 2: askCall(); break;
            case 3: playingCall(); break;
            default: playSome(); break;
        }
    }

    private void tapeCall() {
        int a = some(9000);
        int b = strange();
        switch (below(8)) {
            case 0: is("feed", mine.feed(a, b, a, b, a), plain.feed(a, b, a, b, a)); break;
            case 1: is("end", mine.end(a), plain.end(a)); break;
            case 2: poke(a, b); break;
            case 3: is("save", mine.save(), plain.save()); break;
            case 4: is("load", mine.load(), plain.load()); break;
            case 5: is("fault", mine.fault(b), plain.fault(b)); break;
            default: is("tape", mine.tape(a), plain.tape(a)); break;
        }
    }

    private void moduleCall() {
        int s = some(7);
        int a = some(60);
        int b = some(60);
        switch (below(7)) {
            case 0: is("sample", mine.sample(s, a, b - 8, 30), plain.sample(s, a, b - 8, 30)); break;
            case 1: is("sample", mine.sample(s, a, 3, b), plain.sample(s, a, 3, b)); break;
            case 2: is("loop", mine.loop(s, a, b), plain.loop(s, a, b)); break;
            case 3: is("wave", mine.wave(s, a, b), plain.wave(s, a, b)); break;
            case 4: is("place", mine.place(s, a % 9), plain.place(s, a % 9)); break;
            case 5: is("song", mine.song(s, a), plain.song(s, a)); break;
            default: tellCell(s, a); break;
        }
    }

    private void tellCell(int pattern, int row) {
        int channel = some(4);
        int what = below(8) == 0 ? strange() : cellNumber();
        is("cell", mine.cell(pattern, row, channel, what), plain.cell(pattern, row, channel, what));
    }

    private void askCall() {
        int a = some(70);
        int b = some(16);
        switch (below(5)) {
            case 0: is("cellOf", mine.cellOf(b, a, 1), plain.cellOf(b, a, 1)); break;
            case 1: is("cellOf", mine.cellOf(1, a, b), plain.cellOf(1, a, b)); break;
            case 2: is("now", mine.now(b), plain.now(b)); break;
            case 3: is("channel", mine.channel(a % 5, b), plain.channel(a % 5, b)); break;
            default: is("frame", mine.frame(a, b), plain.frame(a, b)); break;
        }
    }

    private void playingCall() {
        int c = some(5);
        boolean on = below(2) == 0;
        if (below(10) == 0) {
            calls++;
            mine.start();
            plain.start();
        } else if (below(2) == 0) {
            is("mute", mine.mute(c, on), plain.mute(c, on));
        } else {
            int n = strange();
            is("play", mine.play(n), plain.play(n));
        }
    }

    private void playSome() {
        int n = below(5) == 0 ? below(40) : below(4);
        is("play", mine.play(n), plain.play(n));
        is("place", mine.now(0), plain.now(0));
        is("row", mine.now(1), plain.now(1));
        is("again", mine.now(6), plain.now(6));
        is("sum", mine.now(7), plain.now(7));
        for (int i = 0; i < 5; i++) {
            int c = below(4);
            int what = below(14);
            is("channel " + c + " " + what, mine.channel(c, what), plain.channel(c, what));
        }
        int at = some(330);
        is("frame " + at, mine.frame(at, at & 1), plain.frame(at, at & 1));
    }

    private void compareBytes() {
        is("save", mine.save(), plain.save());
        while (calls < CALLS_A_RUN) {
            int i = below(3) == 0 ? below(9001) : 900 + below(2000);
            is("tape " + i, mine.tape(i), plain.tape(i));
        }
    }
}
