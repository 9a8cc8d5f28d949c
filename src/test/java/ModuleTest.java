/** Promises 9 sample, 10 loop, 11 wave, 12 cell, 13 cellOf, 14 place and 15 song. */
public final class ModuleTest {
    private static final int MAX = Integer.MAX_VALUE;
    private static final int MIN = Integer.MIN_VALUE;

    public static void main(String[] args) {
        sampleLimits();
        allLengths();
        sampleForgets();
        samplesKeepTheirBytes();
        loops();
        waves();
        cells();
        places();
        songs();
        Due.end();
    }

    private static void sampleLimits() {
        ModulePlayer x = new ModulePlayer(8000);
        Due.yes("first", x.sample(1, 0, -8, 0));
        Due.yes("last", x.sample(31, 2000, 7, 64));
        int[][] wrong = {
            {0, 2, 0, 0}, {32, 2, 0, 0}, {-1, 2, 0, 0}, {MAX, 2, 0, 0}, {MIN, 2, 0, 0},
            {31, 2002, 0, 0}, {31, -2, 0, 0}, {31, 3, 0, 0}, {31, -1, 0, 0}, {31, MAX, 0, 0},
            {31, MIN, 0, 0}, {31, MAX - 1, 0, 0}, {31, 2, -9, 0}, {31, 2, 8, 0}, {31, 2, 0, -1},
            {31, 2, 0, 65}, {31, 2, MIN, 0}, {31, 2, MAX, 0}, {31, 2, 0, MIN}, {31, 2, 0, MAX},
        };
        for (int[] w : wrong) {
            Due.no("sample of " + w[0] + " " + w[1], x.sample(w[0], w[1], w[2], w[3]));
        }
        Due.yes("what is refused changes nothing", x.wave(31, 1999, 1));
        x.cell(0, 0, 0, Cells.note(428, 31));
        x.play(1);
        Due.is("volume", x.channel(0, 1), 64);
        Due.is("tune", x.channel(0, 7), 7);
    }

    private static void allLengths() {
        ModulePlayer x = new ModulePlayer(8000);
        Due.yes("sample 5", x.sample(5, 2000, 0, 0));
        Due.yes("sample 1", x.sample(1, 1998, 0, 0));
        Due.yes("sample 9", x.sample(9, 2, 0, 0));
        Due.no("4002 in all", x.sample(30, 2, 0, 0));
        Due.no("4002 in all", x.sample(9, 4, 0, 0));
        Due.yes("4000 in all", x.sample(1, 1998, 0, 0));
        Due.yes("less", x.sample(5, 1000, 0, 0));
        Due.yes("4000 again", x.sample(30, 1000, 0, 0));
        Due.no("4002 in all", x.sample(31, 2, 0, 0));
        Due.yes("of none", x.sample(31, 0, 0, 0));
    }

    private static void sampleForgets() {
        ModulePlayer x = new ModulePlayer(8000);
        x.sample(1, 6, 0, 1);
        x.wave(1, 2, 7);
        x.loop(1, 2, 4);
        x.sample(1, 6, 3, 2);
        x.save();
        int[] want = {0, 3, 3, 2, 0, 0, 0, 0};
        for (int i = 0; i < want.length; i++) {
            Due.is("field " + i, x.tape(42 + i), want[i]);
        }
        Due.is("its byte", x.tape(2110), 0);
    }

    private static void samplesKeepTheirBytes() {
        ModulePlayer x = new ModulePlayer(8000);
        for (int s = 1; s <= 5; s++) {
            x.sample(s, 4, 0, 0);
            for (int i = 0; i < 4; i++) {
                x.wave(s, i, 10 * s + i);
            }
        }
        x.sample(2, 8, 0, 0);
        x.sample(4, 2, 0, 0);
        x.sample(1, 0, 0, 0);
        Due.is("save()", x.save(), 2108 + 8 + 4 + 2 + 4);
        int[] want = {0, 0, 0, 0, 0, 0, 0, 0, 30, 31, 32, 33, 0, 0, 50, 51, 52, 53, -1};
        for (int i = 0; i < want.length; i++) {
            Due.is("byte " + i, x.tape(2108 + i), want[i]);
        }
    }

    private static void loops() {
        ModulePlayer x = new ModulePlayer(8000);
        x.sample(4, 20, 0, 0);
        int[][] right = {
            {0, 0}, {20, 0}, {20, 2}, {0, 20}, {16, 4}, {2, 18}, {10, 2}, {0, 4}, {6, 8},
        };
        for (int[] r : right) {
            Due.yes("loop " + r[0] + " " + r[1], x.loop(4, r[0], r[1]));
            x.save();
            Due.is("start kept", x.tape(20 + 90 + 27), r[0] / 2);
            Due.is("loop kept", x.tape(20 + 90 + 29), r[1] / 2);
        }
        int[][] wrong = {
            {22, 0}, {22, 2}, {18, 4}, {0, 22}, {1, 4}, {0, 5}, {0, 1}, {1, 0}, {-2, 4}, {-2, 2},
            {0, -2}, {0, -4}, {24, -4}, {MAX - 1, MAX - 1}, {MIN, MIN}, {MIN, 4}, {0, MAX - 1}, {0, MIN},
        };
        for (int[] w : wrong) {
            Due.no("loop " + w[0] + " " + w[1], x.loop(4, w[0], w[1]));
        }
        x.save();
        Due.is("start stays", x.tape(20 + 90 + 27), 3);
        Due.is("loop stays", x.tape(20 + 90 + 29), 4);
        for (int s : new int[] {0, 32, -1, MAX, MIN}) {
            Due.no("loop of " + s, x.loop(s, 0, 0));
        }
        Due.yes("none of none", x.loop(1, 0, 2));
        Due.no("start of none", x.loop(1, 2, 0));
        Due.no("loop of none", x.loop(1, 0, 4));
    }

    private static void waves() {
        ModulePlayer x = new ModulePlayer(8000);
        x.sample(31, 2, 0, 0);
        Due.yes("-128", x.wave(31, 0, -128));
        Due.yes("127", x.wave(31, 1, 127));
        int[][] wrong = {
            {31, 0, -129}, {31, 0, 128}, {31, 2, 0}, {31, -1, 0}, {31, MAX, 0}, {31, MIN, 0},
            {31, 0, MAX}, {31, 0, MIN}, {0, 0, 0}, {32, 0, 0}, {-1, 0, 0}, {MIN, 0, 0}, {30, 0, 0},
        };
        for (int[] w : wrong) {
            Due.no("wave " + w[0] + " " + w[1] + " " + w[2], x.wave(w[0], w[1], w[2]));
        }
        x.save();
        Due.is("byte 0", x.tape(2108), 128);
        Due.is("byte 1", x.tape(2109), 127);
    }

    private static void cells() {
        ModulePlayer x = new ModulePlayer(8000);
        int told = 1;
        for (int pattern = 0; pattern < 8; pattern++) {
            for (int row = 0; row < 64; row += 9) {
                Due.yes("cell", x.cell(pattern, row, (pattern + row) % 4, told++));
            }
        }
        told = 1;
        for (int pattern = 0; pattern < 8; pattern++) {
            for (int row = 0; row < 64; row += 9) {
                Due.is("cellOf", x.cellOf(pattern, row, (pattern + row) % 4), told++);
                Due.is("cellOf another", x.cellOf(pattern, row, (pattern + row + 1) % 4), 0);
            }
        }
        Due.yes("empty again", x.cell(0, 0, 0, 0));
        Due.is("cellOf", x.cellOf(0, 0, 0), 0);
        Due.yes("greatest", x.cell(7, 63, 3, 536870911));
        Due.no("above it", x.cell(7, 63, 3, 536870912));
        Due.no("below 0", x.cell(7, 63, 3, -1));
        Due.no("max", x.cell(7, 63, 3, MAX));
        Due.no("min", x.cell(7, 63, 3, MIN));
        Due.is("cellOf", x.cellOf(7, 63, 3), 536870911);
        int[][] wrong = {
            {8, 0, 0}, {-1, 0, 0}, {0, 64, 0}, {0, -1, 0}, {0, 0, 4}, {0, 0, -1},
            {MAX, 0, 0}, {MIN, 0, 0}, {0, MAX, 0}, {0, MIN, 0}, {0, 0, MAX}, {0, 0, MIN}, {1, -1, 4},
        };
        for (int[] w : wrong) {
            Due.no("cell", x.cell(w[0], w[1], w[2], 0));
            Due.is("cellOf", x.cellOf(w[0], w[1], w[2]), -1);
        }
    }

    private static void places() {
        ModulePlayer x = new ModulePlayer(8000);
        Due.yes("place(0, 2)", x.place(0, 2));
        Due.yes("place(127, 7)", x.place(127, 7));
        int[][] wrong = {{128, 0}, {-1, 0}, {0, 8}, {0, -1}, {MAX, 0}, {MIN, 0}, {0, MAX}, {0, MIN}};
        for (int[] w : wrong) {
            Due.no("place " + w[0] + " " + w[1], x.place(w[0], w[1]));
        }
        Due.is("save()", x.save(), 1084 + 3072);
        x.song(128, 0);
        Due.is("save() of 8", x.save(), -1);
        x.place(127, 1);
        Due.is("save()", x.save(), 1084 + 3072);
        Due.is("place 127", x.tape(1079), 1);
        Due.is("place 0", x.tape(952), 2);
    }

    private static void songs() {
        ModulePlayer x = new ModulePlayer(8000);
        Due.yes("song(1, 0)", x.song(1, 0));
        Due.yes("song(128, 255)", x.song(128, 255));
        int[][] wrong = {{0, 0}, {129, 0}, {-1, 0}, {1, -1}, {1, 256}, {MAX, 0}, {MIN, 0}, {1, MAX}, {1, MIN}};
        for (int[] w : wrong) {
            Due.no("song " + w[0] + " " + w[1], x.song(w[0], w[1]));
        }
        x.save();
        Due.is("its length", x.tape(950), 128);
        Due.is("restart", x.tape(951), 255);
    }
}
