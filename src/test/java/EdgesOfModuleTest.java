/** Terms 1 and promises 9 to 15: what a module can have, at its edges. */
public final class EdgesOfModuleTest {
    private static final int MAX = Integer.MAX_VALUE;
    private static final int MIN = Integer.MIN_VALUE;
    private static final int PATTERNS_END = 2108;

    public static void main(String[] args) {
        Sentence.holds("A MODULE has SAMPLES 1 .. 31", EdgesOfModuleTest::sampleNumbers);
        Sentence.holds("a LENGTH (bytes, even, 0 .. 2000;", EdgesOfModuleTest::lengths);
        Sentence.holds("all together 4000 at most)", EdgesOfModuleTest::allTogether);
        Sentence.holds("a TUNE (-8 .. 7)", EdgesOfModuleTest::tunes);
        Sentence.holds("a VOLUME (0 .. 64)", EdgesOfModuleTest::volumes);
        Sentence.holds("A SAMPLE has another LENGTH (its bytes are 0), TUNE, VOLUME; no START, LOOP: true",
                EdgesOfModuleTest::sampleIsNew);
        Sentence.holds("false if it can't be as told in 1.", EdgesOfModuleTest::sampleRefusesAnyOne);
        Sentence.holds("a START and a LOOP (bytes, even; START and LOOP together not above the LENGTH;",
                EdgesOfModuleTest::startAndLoop);
        Sentence.holds("LOOP 2 or less: there is none, and START alone is not above the LENGTH",
                EdgesOfModuleTest::startAlone);
        Sentence.holds("a LOOP of 2 or less: START is not above LENGTH; it is kept as it is told",
                EdgesOfModuleTest::startIsKept);
        Sentence.holds("A SAMPLE's START and LOOP: true; false if there is none such, or they can't be as told in 1",
                EdgesOfModuleTest::loopOfNone);
        Sentence.holds("and its bytes (-128 .. 127)", EdgesOfModuleTest::bytesOfSamples);
        Sentence.holds("Byte i of a SAMPLE: true; false if there is none such, or v isn't -128 .. 127.",
                EdgesOfModuleTest::waveOfNone);
        Sentence.holds("PATTERNS 0 .. 7 of 64 ROWS of 4 CELLS", EdgesOfModuleTest::cellsThereAre);
        Sentence.holds("A CELL has a SAMPLE (0 .. 31; 0: none), a PERIOD (0 .. 4095; 0: none), an EFFECT (0 .. 15)"
                + " and its NUMBER (0 .. 255; x its higher four bits, y its lower ones).",
                EdgesOfModuleTest::cellsWithNone);
        Sentence.holds("what is PERIOD * 131072 + SAMPLE * 4096 + EFFECT * 256 + NUMBER: true",
                EdgesOfModuleTest::partsOfCells);
        Sentence.holds("false if there is no such PATTERN, ROW, CHANNEL, or that isn't 0 .. 536870911.",
                EdgesOfModuleTest::cellRefuses);
        Sentence.holds("What a CELL is, so told; NONE if there is none such.", EdgesOfModuleTest::cellOfNone);
        Sentence.holds("a SONG: 1 .. 128 places, each with a PATTERN; a RESTART (0 .. 255)",
                EdgesOfModuleTest::songsTaken);
        Sentence.holds("What is refused changes nothing.", EdgesOfModuleTest::allRefusedInARow);
        Sentence.holds("The SONG has n places (1 .. 128), RESTART is told (0 .. 255): true; false for others.",
                EdgesOfModuleTest::songRefuses);
        Sentence.holds("Place i of the SONG has a PATTERN (also one behind its end, 0 .. 127): true",
                EdgesOfModuleTest::placesTaken);
        Sentence.holds("(also one behind its end, 0 .. 127): true; false if there is none such.",
                EdgesOfModuleTest::placeRefuses);
        Due.end();
    }

    private static ModulePlayer player() {
        return new ModulePlayer(8000);
    }

    /** What the bytes of the module have at a place. */
    private static int saved(ModulePlayer x, int at) {
        x.save();
        return x.tape(at);
    }

    private static int field(int s, int at) {
        return 20 + 30 * (s - 1) + at;
    }

    private static void sampleNumbers() {
        for (int s : new int[] {1, 2, 30, 31}) {
            ModulePlayer x = player();
            Due.yes("sample of " + s, x.sample(s, 4, 0, 9));
            Due.yes("loop of " + s, x.loop(s, 0, 4));
            Due.yes("wave of " + s, x.wave(s, 3, 5));
            Due.is("its volume", saved(x, field(s, 25)), 9);
        }
        for (int s : new int[] {0, 32, -1, 33, MAX, MIN}) {
            Refused.no("sample of " + s, x -> x.sample(s, 4, 0, 9));
            Refused.no("loop of " + s, x -> x.loop(s, 0, 0));
            Refused.no("wave of " + s, x -> x.wave(s, 0, 5));
        }
    }

    private static void lengths() {
        for (int length : new int[] {0, 2, 1998, 2000}) {
            ModulePlayer x = player();
            Due.yes("length " + length, x.sample(7, length, 0, 0));
            Due.is("its last byte", x.wave(7, length - 1, 1) ? 1 : 0, length > 0 ? 1 : 0);
            Due.no("the byte behind it", x.wave(7, length, 1));
        }
        for (int length : new int[] {-2, -1, 1, 3, 1999, 2001, 2002, 4000, MAX - 1, MAX, MIN}) {
            Refused.no("length " + length, x -> x.sample(1, length, 0, 0));
            Refused.no("length " + length, x -> x.sample(7, length, 0, 0));
        }
    }

    /** The busy player's samples have 48 bytes; with these all have 4000. */
    private static void fill(ModulePlayer x) {
        x.sample(2, 2000, 0, 0);
        x.sample(3, 1952, 0, 0);
    }

    private static void allTogether() {
        ModulePlayer x = Busy.player();
        fill(x);
        Due.no("3952 and 48 are 4000", x.sample(4, 2, 0, 0));
        Due.yes("the same length again", x.sample(1, 8, 0, 0));
        Due.yes("no length", x.sample(4, 0, 0, 0));
        Due.yes("two less", x.sample(3, 1950, 0, 0));
        Due.yes("two more", x.sample(4, 2, 0, 0));
        Due.no("two more", x.sample(5, 2, 0, 0));
        ModulePlayer y = player();
        Due.yes("2000", y.sample(30, 2000, 0, 0));
        Due.yes("4000", y.sample(31, 2000, 0, 0));
        Due.no("4002", y.sample(1, 2, 0, 0));
        Due.yes("the last byte", y.wave(31, 1999, 4));
        Due.yes("the other's last byte", y.wave(30, 1999, 3));
        Due.is("save()", y.save(), PATTERNS_END + 4000);
        Due.is("the last byte", y.tape(PATTERNS_END + 3999), 4);
        Due.is("the other's last byte", y.tape(PATTERNS_END + 1999), 3);
        Refused.no("4002 by a new one", EdgesOfModuleTest::fill, z -> z.sample(4, 2, 0, 0));
        Refused.no("4002 by the first", EdgesOfModuleTest::fill, z -> z.sample(1, 10, 0, 0));
        Refused.no("4002 by the last", EdgesOfModuleTest::fill, z -> z.sample(31, 42, 0, 0));
        Refused.no("4048", EdgesOfModuleTest::fill, z -> z.sample(3, 2000, 0, 0));
    }

    private static void tunes() {
        for (int tune : new int[] {-8, -1, 0, 7}) {
            ModulePlayer x = player();
            Due.yes("tune " + tune, x.sample(7, 2, tune, 0));
            x.cell(0, 0, 0, Cells.note(428, 7));
            x.play(1);
            Due.is("its tune", x.channel(0, 7), tune);
        }
        for (int tune : new int[] {-9, 8, 15, MAX, MIN}) {
            Refused.no("tune " + tune, x -> x.sample(1, 8, tune, 0));
        }
    }

    private static void volumes() {
        for (int volume : new int[] {0, 1, 63, 64}) {
            ModulePlayer x = player();
            Due.yes("volume " + volume, x.sample(7, 2, 0, volume));
            x.cell(0, 0, 0, Cells.note(428, 7));
            x.play(1);
            Due.is("its volume", x.channel(0, 1), volume);
        }
        for (int volume : new int[] {-1, 65, MAX, MIN}) {
            Refused.no("volume " + volume, x -> x.sample(1, 8, 0, volume));
        }
    }

    private static void sampleIsNew() {
        for (int length : new int[] {4, 6, 8}) {
            ModulePlayer x = player();
            x.sample(1, 2, 0, 0);
            x.wave(1, 1, 11);
            x.sample(2, 6, -2, 9);
            for (int i = 0; i < 6; i++) {
                x.wave(2, i, 20 + i);
            }
            x.loop(2, 2, 4);
            x.sample(3, 2, 0, 0);
            x.wave(3, 0, 33);
            Due.yes("sample(2, " + length + ", 5, 60)", x.sample(2, length, 5, 60));
            Due.is("save()", x.save(), PATTERNS_END + 4 + length);
            int[] want = {0, length / 2, 5, 60, 0, 0, 0, 0};
            for (int i = 0; i < want.length; i++) {
                Due.is("its field " + i, x.tape(field(2, 22) + i), want[i]);
            }
            Due.is("the byte of the one ahead", x.tape(PATTERNS_END + 1), 11);
            for (int i = 0; i < length; i++) {
                Due.is("its byte " + i, x.tape(PATTERNS_END + 2 + i), 0);
            }
            Due.is("the byte of the one behind", x.tape(PATTERNS_END + 2 + length), 33);
        }
    }

    private static void sampleRefusesAnyOne() {
        int[][] wrong = {{0, 4, 0, 9}, {1, 5, 0, 9}, {1, 4, 8, 9}, {1, 4, 0, 65}, {31, 2002, -9, -1}};
        for (int[] w : wrong) {
            Refused.no("sample(" + w[0] + ", " + w[1] + ", " + w[2] + ", " + w[3] + ")",
                    x -> x.sample(w[0], w[1], w[2], w[3]));
        }
    }

    private static void loopTaken(int length, int start, int loop) {
        ModulePlayer x = player();
        x.sample(5, length, 0, 0);
        Due.yes("loop(5, " + start + ", " + loop + ") of " + length, x.loop(5, start, loop));
        x.save();
        Due.is("its start", x.tape(field(5, 26)) * 512 + x.tape(field(5, 27)) * 2, start);
        Due.is("its loop", x.tape(field(5, 28)) * 512 + x.tape(field(5, 29)) * 2, loop);
    }

    /** Of the busy player's sample 1, which has 8 bytes. */
    private static void loopRefused(int start, int loop) {
        Refused.no("loop(1, " + start + ", " + loop + ") of 8", x -> x.loop(1, start, loop));
    }

    private static void startAndLoop() {
        loopTaken(8, 0, 8);
        loopTaken(8, 4, 4);
        loopTaken(8, 2, 6);
        loopTaken(8, 0, 4);
        loopTaken(2000, 0, 2000);
        loopTaken(2000, 1996, 4);
        loopTaken(4, 0, 4);
        int[][] wrong = {
            {0, 10}, {2, 8}, {4, 6}, {6, 4}, {8, 4}, {10, 4}, {1, 4}, {3, 4}, {0, 3}, {0, 5}, {0, 7}, {1, 7},
            {-2, 4}, {-4, 8}, {-2, 10}, {-1, 4}, {MAX - 1, 4}, {0, MAX - 1}, {MAX - 1, MAX - 1}, {MIN, 4}, {MAX, MAX},
        };
        for (int[] w : wrong) {
            loopRefused(w[0], w[1]);
        }
    }

    private static void startAlone() {
        for (int loop = 0; loop <= 2; loop += 2) {
            loopTaken(8, 0, loop);
            loopTaken(8, 6, loop);
            loopTaken(8, 8, loop);
            loopTaken(0, 0, loop);
            loopTaken(2000, 2000, loop);
            for (int start : new int[] {-2, -1, 1, 7, 9, 10, MAX - 1, MIN}) {
                loopRefused(start, loop);
            }
        }
        // A LOOP has bytes, and an even number of them, also where there is none.
        loopRefused(0, 1);
        loopRefused(0, -1);
        loopRefused(0, -2);
        loopRefused(0, MIN);
        ModulePlayer x = player();
        x.sample(5, 8, 0, 1);
        x.loop(5, 0, 2);
        x.cell(0, 0, 0, Cells.note(428, 5));
        x.play(1);
        Due.is("a loop of 2 is none: it ends", x.channel(0, 4), 0);
        x.sample(5, 8, 0, 1);
        x.loop(5, 0, 4);
        x.start();
        x.play(1);
        Due.is("a loop of 4 is one: it goes on", x.channel(0, 4), 1);
    }

    private static void startIsKept() {
        ModulePlayer x = player();
        x.sample(5, 8, 0, 0);
        x.loop(5, 2, 6);
        Due.yes("loop(5, 8, 2)", x.loop(5, 8, 2));
        Due.is("its start", saved(x, field(5, 27)), 4);
        Due.is("its loop", saved(x, field(5, 29)), 1);
        Due.yes("loop(5, 6, 0)", x.loop(5, 6, 0));
        Due.is("its start", saved(x, field(5, 27)), 3);
        Due.is("its loop", saved(x, field(5, 29)), 0);
    }

    private static void loopOfNone() {
        for (int s : new int[] {0, 32, -1, MAX, MIN}) {
            Refused.no("loop(" + s + ", 0, 0)", x -> x.loop(s, 0, 0));
        }
        Refused.no("loop of a sample without bytes", x -> x.loop(2, 0, 4));
        Refused.no("start of a sample without bytes", x -> x.loop(2, 2, 0));
    }

    private static void bytesOfSamples() {
        ModulePlayer x = player();
        x.sample(1, 4, 0, 1);
        int[] values = {-128, -127, 126, 127};
        for (int i = 0; i < 4; i++) {
            Due.yes("wave of " + values[i], x.wave(1, i, values[i]));
        }
        x.cell(0, 0, 0, Cells.note(428, 1));
        x.play(1);
        for (int i = 0; i < 4; i++) {
            Due.is("frame " + i, x.frame(i, 0), values[i]);
        }
        for (int v : new int[] {-129, 128, 255, -256, MAX, MIN}) {
            Refused.no("wave of " + v, y -> y.wave(1, 0, v));
        }
    }

    private static void waveOfNone() {
        ModulePlayer x = player();
        x.sample(31, 2000, 0, 0);
        Due.yes("the first byte", x.wave(31, 0, 1));
        Due.yes("the last byte", x.wave(31, 1999, 2));
        Due.is("the first byte", saved(x, PATTERNS_END), 1);
        Due.is("the last byte", saved(x, PATTERNS_END + 1999), 2);
        // Sample 1 has 8 bytes, sample 31 has 40, sample 2 none.
        int[][] wrong = {
            {1, -1, 1}, {1, 8, 1}, {1, 9, 1}, {31, 40, 1}, {31, -1, 1}, {2, 0, 1}, {2, -1, 1}, {30, 0, 0},
            {1, MAX, 0}, {1, MIN, 0}, {0, 0, 0}, {32, 0, 0}, {-1, 0, 0}, {MIN, 0, 0}, {1, 0, 128}, {1, 7, -129},
        };
        for (int[] w : wrong) {
            Refused.no("wave(" + w[0] + ", " + w[1] + ", " + w[2] + ")", y -> y.wave(w[0], w[1], w[2]));
        }
    }

    private static void cellsThereAre() {
        int[] patterns = {0, 3, 7};
        int[] rows = {0, 31, 63};
        ModulePlayer x = player();
        int told = 1;
        for (int p : patterns) {
            for (int r : rows) {
                for (int c = 0; c < 4; c++) {
                    Due.yes("cell(" + p + ", " + r + ", " + c + ")", x.cell(p, r, c, told++));
                }
            }
        }
        told = 1;
        for (int p : patterns) {
            for (int r : rows) {
                for (int c = 0; c < 4; c++) {
                    Due.is("cellOf(" + p + ", " + r + ", " + c + ")", x.cellOf(p, r, c), told++);
                }
            }
        }
        Due.is("cellOf another pattern", x.cellOf(1, 0, 0), 0);
        Due.is("cellOf another row", x.cellOf(0, 1, 0), 0);
    }

    private static void cellsWithNone() {
        ModulePlayer x = player();
        x.sample(31, 2, 1, 9);
        x.cell(0, 0, 0, Cells.of(4095, 31, 0, 0));
        x.cell(0, 1, 0, Cells.of(0, 0, 15, 255));
        x.cell(0, 2, 0, Cells.of(0, 0, 14, 0xA5));
        x.play(1);
        Due.is("sample 31", x.channel(0, 0), 31);
        Due.is("period 4095", x.channel(0, 2), 856);
        x.play(6);
        Due.is("sample 0 is none", x.channel(0, 0), 31);
        Due.is("period 0 is none", x.channel(0, 2), 856);
        Due.is("effect 15, number 255", x.now(5), 255);
        x.play(6);
        Due.is("x 10, y 5", x.channel(0, 1), 14);
    }

    private static void partsOfCells() {
        int[][] parts = {
            {0, 0, 0, 0}, {4095, 31, 15, 255}, {4095, 0, 0, 0}, {0, 31, 0, 0}, {0, 0, 15, 0}, {0, 0, 0, 255},
            {1, 0, 0, 0}, {0, 1, 0, 0}, {0, 0, 1, 0}, {0, 0, 0, 1}, {428, 16, 12, 33},
        };
        for (int[] p : parts) {
            ModulePlayer x = player();
            int what = p[0] * 131072 + p[1] * 4096 + p[2] * 256 + p[3];
            Due.yes("cell of " + what, x.cell(0, 0, 0, what));
            Due.is("cellOf", x.cellOf(0, 0, 0), what);
            x.save();
            Due.is("its first byte", x.tape(1084), p[1] / 16 * 16 + p[0] / 256);
            Due.is("its second byte", x.tape(1085), p[0] % 256);
            Due.is("its third byte", x.tape(1086), p[1] % 16 * 16 + p[2]);
            Due.is("its fourth byte", x.tape(1087), p[3]);
        }
        ModulePlayer x = player();
        x.cell(0, 0, 0, 428 * 131072 + 31 * 4096 + 12 * 256 + 33);
        x.play(1);
        Due.is("period", x.channel(0, 2), 428);
        Due.is("sample", x.channel(0, 0), 31);
        Due.is("volume by effect 12 and number 33", x.channel(0, 1), 33);
    }

    private static void cellRefuses() {
        int[][] wrong = {
            {-1, 0, 0, 5}, {8, 0, 0, 5}, {0, -1, 0, 5}, {0, 64, 0, 5}, {0, 0, -1, 5}, {0, 0, 4, 5}, {7, 63, 4, 5},
            {7, 64, 3, 5}, {8, 63, 3, 5}, {1, 0, -1, 5}, {0, 1, -1, 5}, {1, -1, 0, 5}, {MAX, 0, 0, 5}, {MIN, 0, 0, 5},
            {0, MAX, 0, 5}, {0, MIN, 0, 5}, {0, 0, MAX, 5}, {0, 0, MIN, 5},
            {0, 0, 0, -1}, {0, 0, 0, 536870912}, {0, 0, 0, MAX}, {0, 0, 0, MIN}, {7, 63, 3, 536870912},
        };
        for (int[] w : wrong) {
            Refused.no("cell(" + w[0] + ", " + w[1] + ", " + w[2] + ", " + w[3] + ")",
                    x -> x.cell(w[0], w[1], w[2], w[3]));
        }
        ModulePlayer x = player();
        Due.yes("the greatest", x.cell(7, 63, 3, 536870911));
        Due.is("cellOf", x.cellOf(7, 63, 3), 536870911);
        Due.yes("the least", x.cell(7, 63, 3, 0));
        Due.is("cellOf", x.cellOf(7, 63, 3), 0);
    }

    private static void cellOfNone() {
        int[][] wrong = {
            {-1, 0, 0}, {8, 0, 0}, {0, -1, 0}, {0, 64, 0}, {0, 0, -1}, {0, 0, 4}, {1, 0, -1}, {1, -1, 0}, {6, 64, 0},
            {MAX, 0, 0}, {MIN, 0, 0}, {0, MAX, 0}, {0, MIN, 0}, {0, 0, MAX}, {0, 0, MIN},
        };
        for (int[] w : wrong) {
            Refused.none("cellOf(" + w[0] + ", " + w[1] + ", " + w[2] + ")", x -> x.cellOf(w[0], w[1], w[2]));
        }
        ModulePlayer x = player();
        Due.is("cellOf(0, 0, 0)", x.cellOf(0, 0, 0), 0);
        Due.is("cellOf(7, 63, 3)", x.cellOf(7, 63, 3), 0);
    }

    private static void songsTaken() {
        int[][] right = {{1, 0}, {1, 255}, {128, 0}, {128, 255}, {2, 128}};
        for (int[] r : right) {
            ModulePlayer x = player();
            Due.yes("song(" + r[0] + ", " + r[1] + ")", x.song(r[0], r[1]));
            Due.is("its places", saved(x, 950), r[0]);
            Due.is("its restart", saved(x, 951), r[1]);
        }
        // The place 127 is played in a SONG of 128 places, in one of 127 it is not.
        ModulePlayer x = player();
        x.cell(0, 0, 0, Cells.effect(11, 127));
        x.cell(0, 0, 1, Cells.effect(15, 1));
        x.song(128, 0);
        x.play(2);
        Due.is("place 127 of 128", x.now(0), 127);
        x.song(127, 0);
        x.start();
        x.play(2);
        Due.is("place 127 of 127", x.now(0), 0);
    }

    private static void songRefuses() {
        int[][] wrong = {
            {0, 0}, {129, 0}, {-1, 0}, {1, -1}, {1, 256}, {128, 256}, {0, 256}, {MAX, 0}, {MIN, 0}, {5, MAX}, {5, MIN},
        };
        for (int[] w : wrong) {
            Refused.no("song(" + w[0] + ", " + w[1] + ")", x -> x.song(w[0], w[1]));
        }
    }

    private static void placesTaken() {
        ModulePlayer x = player();
        Due.yes("place(0, 3)", x.place(0, 3));
        Due.yes("place(127, 1)", x.place(127, 1));
        Due.yes("place(1, 2)", x.place(1, 2));
        Due.is("patterns 0 to 3", x.save(), 1084 + 4 * 1024);
        Due.is("place 0", x.tape(952), 3);
        x.song(128, 0);
        Due.is("place 1", saved(x, 953), 2);
        Due.is("place 127", saved(x, 1079), 1);
        x.song(1, 0);
        x.song(128, 0);
        Due.is("place 1 behind a shorter song", saved(x, 953), 2);
        Due.is("place 127 behind a shorter song", saved(x, 1079), 1);
        Due.yes("place(127, 7)", x.place(127, 7));
        Due.is("eight patterns are too many bytes", x.save(), -1);
        Due.yes("place(127, 0)", x.place(127, 0));
        Due.is("place 127", saved(x, 1079), 0);
        ModulePlayer y = player();
        y.place(0, 7);
        y.cell(7, 0, 0, Cells.note(428, 0));
        y.play(1);
        Due.is("pattern 7 is played", y.channel(0, 2), 428);
    }

    private static void placeRefuses() {
        int[][] wrong = {
            {-1, 0}, {128, 0}, {128, 8}, {0, -1}, {0, 8}, {127, 8}, {MAX, 1}, {MIN, 1}, {0, MAX}, {0, MIN}, {129, 1},
        };
        for (int[] w : wrong) {
            Refused.no("place(" + w[0] + ", " + w[1] + ")", x -> x.place(w[0], w[1]));
        }
    }

    private static void allRefusedInARow() {
        Refused.no("all of them", x -> {
            boolean taken = x.end(-1) | x.sample(1, 2002, 0, 0) | x.loop(1, 0, 10) | x.wave(1, 8, 0)
                    | x.cell(8, 0, 0, 1) | x.place(128, 0) | x.song(0, 0) | x.mute(4, true);
            return taken | x.poke(9000, 1) != -1 | x.tape(4301) != -1 | x.cellOf(0, 64, 0) != -1 | x.play(401) != -1
                    | x.now(9) != -1 | x.channel(4, 0) != -1 | x.frame(-1, 0) != 0 | x.fault(2) != -1;
        });
    }
}
