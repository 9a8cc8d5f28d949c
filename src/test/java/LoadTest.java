/** Promises 5 load and 6 fault. */
public final class LoadTest {
    public static void main(String[] args) {
        tooShort();
        marks();
        samples();
        loops();
        allLengths();
        songs();
        tooFewBytes();
        theFirstFaultIsTold();
        aFaultChangesNothing();
        reads();
        sampleNumbersHaveFiveBits();
        whatTheSongDoesNotNeedIsEmpty();
        otherSamplesComeInTheirPlace();
        playsFromTheBegin();
        Due.end();
    }

    private static int field(int s, int at) {
        return 20 + 30 * (s - 1) + at;
    }

    private static void pokePair(ModulePlayer x, int at, int value) {
        x.poke(at, value >> 8);
        x.poke(at + 1, value);
    }

    /** The tape of a module of one place, with n bytes. */
    private static ModulePlayer plain(int n) {
        ModulePlayer x = new ModulePlayer(8000);
        x.poke(n - 1, 0);
        x.poke(950, 1);
        x.poke(1080, 77);
        x.poke(1081, 46);
        x.poke(1082, 75);
        x.poke(1083, 46);
        return x;
    }

    private static void loads(String what, ModulePlayer x, int patterns) {
        Due.is(what + ": load()", x.load(), patterns);
        Due.is(what + ": fault(0)", x.fault(0), 0);
        Due.is(what + ": fault(1)", x.fault(1), -1);
    }

    private static void fails(String what, ModulePlayer x, int fault, int place) {
        Due.is(what + ": load()", x.load(), -1);
        Due.is(what + ": fault(0)", x.fault(0), fault);
        Due.is(what + ": fault(1)", x.fault(1), place);
        Due.is(what + ": fault(2)", x.fault(2), -1);
        Due.is(what + ": fault(-1)", x.fault(-1), -1);
    }

    private static void tooShort() {
        fails("no bytes", new ModulePlayer(8000), 1, 0);
        ModulePlayer x = plain(2108);
        x.end(1083);
        fails("1083 bytes", x, 1, 1083);
        x.poke(1083, 46);
        fails("1084 bytes", x, 4, 1084);
    }

    private static void marks() {
        for (int at = 1080; at < 1084; at++) {
            ModulePlayer x = plain(2108);
            x.poke(1083, 0);
            x.poke(at, 1);
            fails("mark " + at, x, 2, at);
        }
    }

    private static void samples() {
        for (int s = 1; s <= 31; s += 6) {
            ModulePlayer x = plain(2108 + 2000);
            pokePair(x, field(s, 22), 1000);
            loads("length 2000", x, 1);
            pokePair(x, field(s, 22), 1001);
            fails("length 2002", x, 3, field(s, 22));
            pokePair(x, field(s, 22), 65535);
            fails("length 131070", x, 3, field(s, 22));
            pokePair(x, field(s, 22), 0);
            x.poke(field(s, 24), 15);
            loads("tune 15", x, 1);
            x.poke(field(s, 24), 16);
            fails("tune 16", x, 3, field(s, 24));
            x.poke(field(s, 24), 0);
            x.poke(field(s, 25), 64);
            loads("volume 64", x, 1);
            x.poke(field(s, 25), 65);
            fails("volume 65", x, 3, field(s, 25));
        }
    }

    private static void loops() {
        int[][] halfStartLoopFits = {
            {5, 5, 1}, {5, 6, 0}, {6, 5, 0}, {10, 0, 1}, {10, 1, 1}, {11, 0, 0}, {11, 1, 0},
            {10, 2, 0}, {8, 2, 1}, {9, 2, 0}, {0, 10, 1}, {0, 11, 0}, {65535, 65535, 0}, {65535, 1, 0},
        };
        for (int[] row : halfStartLoopFits) {
            ModulePlayer x = plain(2108 + 20);
            pokePair(x, field(7, 22), 10);
            pokePair(x, field(7, 26), row[0]);
            pokePair(x, field(7, 28), row[1]);
            String what = "start " + row[0] + " loop " + row[1];
            if (row[2] == 1) {
                loads(what, x, 1);
            } else {
                fails(what, x, 3, field(7, 26));
            }
        }
    }

    private static void allLengths() {
        ModulePlayer x = plain(2108 + 4000);
        pokePair(x, field(2, 22), 1000);
        pokePair(x, field(30, 22), 1000);
        loads("4000 in all", x, 1);
        pokePair(x, field(31, 22), 1);
        fails("4002 in all", x, 3, field(31, 22));
        pokePair(x, field(3, 22), 1);
        fails("4002 with those ahead", x, 3, field(30, 22));
    }

    private static void songs() {
        ModulePlayer x = plain(2108);
        x.poke(950, 0);
        fails("song of 0", x, 3, 950);
        x.poke(950, 129);
        fails("song of 129", x, 3, 950);
        x.poke(950, 255);
        fails("song of 255", x, 3, 950);
        x.poke(950, 128);
        loads("song of 128", x, 1);
        x.poke(1079, 8);
        fails("last place", x, 3, 1079);
        x.poke(950, 127);
        loads("place behind the song", x, 1);
        x.poke(952, 8);
        fails("first place", x, 3, 952);
        x.poke(952, 255);
        fails("first place", x, 3, 952);
        x.poke(952, 7);
        fails("eight patterns", x, 4, 2108);
        x.poke(1084 + 8 * 1024 - 2, 0);
        fails("no tape is so long", x, 4, 2108);
    }

    private static void tooFewBytes() {
        ModulePlayer x = plain(1084 + 3 * 1024 + 6);
        x.poke(950, 3);
        x.poke(953, 2);
        pokePair(x, field(1, 22), 1);
        pokePair(x, field(31, 22), 2);
        loads("enough", x, 3);
        x.end(1084 + 3 * 1024 + 5);
        fails("one less", x, 4, 1084 + 3 * 1024 + 5);
        x.poke(6000, 1);
        loads("bytes behind", x, 3);
    }

    private static void theFirstFaultIsTold() {
        ModulePlayer x = plain(1084);
        x.poke(950, 0);
        x.poke(952, 9);
        pokePair(x, field(5, 26), 1);
        x.poke(field(5, 25), 65);
        x.poke(field(5, 24), 16);
        pokePair(x, field(5, 22), 1001);
        x.poke(field(6, 24), 16);
        x.poke(1082, 0);
        fails("mark", x, 2, 1082);
        x.poke(1082, 75);
        fails("length", x, 3, field(5, 22));
        pokePair(x, field(5, 22), 0);
        fails("tune", x, 3, field(5, 24));
        x.poke(field(5, 24), 0);
        fails("volume", x, 3, field(5, 25));
        x.poke(field(5, 25), 0);
        fails("start", x, 3, field(5, 26));
        pokePair(x, field(5, 26), 0);
        fails("the next sample", x, 3, field(6, 24));
        x.poke(field(6, 24), 0);
        fails("the song", x, 3, 950);
        x.poke(950, 1);
        fails("its place", x, 3, 952);
        x.poke(952, 0);
        fails("bytes", x, 4, 1084);
        x.poke(2107, 0);
        loads("none", x, 1);
    }

    private static void aFaultChangesNothing() {
        ModulePlayer x = new ModulePlayer(8000);
        x.sample(1, 4, 0, 64);
        x.cell(0, 0, 0, Cells.note(428, 1));
        x.play(2);
        int sum = x.now(7);
        Due.is("load()", x.load(), -1);
        Due.is("cellOf", x.cellOf(0, 0, 0), Cells.note(428, 1));
        Due.yes("wave", x.wave(1, 3, 5));
        Due.is("now(8)", x.now(8), 2);
        Due.is("now(7)", x.now(7), sum);
        Due.is("channel(0, 2)", x.channel(0, 2), 428);
        Due.is("tape(0)", x.tape(0), -1);
    }

    private static void reads() {
        ModulePlayer x = plain(1084 + 2048 + 8);
        x.poke(950, 2);
        x.poke(951, 200);
        x.poke(953, 1);
        pokePair(x, field(2, 22), 1);
        x.poke(field(2, 24), 9);
        x.poke(field(2, 25), 33);
        pokePair(x, field(17, 22), 3);
        x.poke(field(17, 24), 7);
        x.poke(field(17, 25), 64);
        pokePair(x, field(17, 26), 1);
        pokePair(x, field(17, 28), 2);
        int cell = 1084 + 1024 + (63 * 4 + 3) * 4;
        x.poke(cell, 0x1A);
        x.poke(cell + 1, 0xBC);
        x.poke(cell + 2, 0x1D);
        x.poke(cell + 3, 0xEF);
        for (int i = 0; i < 8; i++) {
            x.poke(1084 + 2048 + i, 250 + i);
        }
        loads("module", x, 2);
        Due.is("the tape stays", x.tape(cell + 3), 0xEF);
        Due.is("cellOf", x.cellOf(1, 63, 3), Cells.of(0xABC, 17, 13, 0xEF));
        Due.is("cellOf", x.cellOf(0, 0, 0), 0);
        x.cell(0, 0, 0, Cells.note(856, 17));
        x.cell(0, 0, 3, Cells.note(856, 2));
        x.cell(0, 1, 3, Cells.effect(12, 0));
        x.play(1);
        Due.is("tune of 17", x.channel(0, 7), 7);
        Due.is("tune of 2", x.channel(3, 7), -7);
        Due.is("volume of 17", x.channel(0, 1), 64);
        Due.is("volume of 2", x.channel(3, 1), 33);
        // Sample 2 has the bytes 250 and 251 (-6 and -5), sample 17 those from 252 (-4) on.
        Due.is("frame(0, 0)", x.frame(0, 0), -6 * 33 - 4 * 64);
        Due.is("it loops", x.channel(0, 4), 1);
        Due.is("it does not", x.channel(3, 4), 0);
    }

    private static void sampleNumbersHaveFiveBits() {
        ModulePlayer x = plain(2108);
        x.poke(1084, 0xF0);
        x.poke(1086, 0xF0);
        x.poke(1088, 0xE0);
        x.poke(1090, 0x50);
        loads("samples above 31", x, 1);
        Due.is("cellOf", x.cellOf(0, 0, 0), Cells.note(0, 31));
        Due.is("cellOf", x.cellOf(0, 0, 1), Cells.note(0, 5));
    }

    private static void whatTheSongDoesNotNeedIsEmpty() {
        ModulePlayer x = plain(1084 + 3072);
        x.poke(952, 1);
        x.poke(953, 2);
        for (int i = 1084; i < 1084 + 3072; i += 1024) {
            x.poke(i + 3, 9);
        }
        x.cell(7, 5, 1, 77);
        x.place(5, 6);
        x.sample(9, 4, 1, 1);
        loads("module", x, 2);
        // Pattern 0 lies ahead of the greatest one of the song, so it came with the bytes.
        Due.is("cellOf(0, 0, 0)", x.cellOf(0, 0, 0), 9);
        Due.is("cellOf(1, 0, 0)", x.cellOf(1, 0, 0), 9);
        Due.is("cellOf(2, 0, 0)", x.cellOf(2, 0, 0), 0);
        Due.is("cellOf(7, 5, 1)", x.cellOf(7, 5, 1), 0);
        Due.no("no sample 9", x.wave(9, 0, 0));
        x.song(128, 0);
        Due.is("save()", x.save(), 1084 + 2048);
        Due.is("place 0", x.tape(952), 1);
        for (int i = 953; i < 1080; i++) {
            Due.is("tape(" + i + ")", x.tape(i), 0);
        }
    }

    private static void otherSamplesComeInTheirPlace() {
        ModulePlayer x = plain(2108 + 4000);
        x.sample(1, 2000, 0, 9);
        x.sample(2, 2000, 0, 9);
        x.poke(951, 5);
        pokePair(x, field(30, 22), 1000);
        pokePair(x, field(31, 22), 1000);
        x.poke(field(31, 24), 8);
        x.poke(field(31, 25), 7);
        pokePair(x, field(31, 28), 900);
        x.poke(2108, 1);
        x.poke(2108 + 1999, 2);
        x.poke(2108 + 2000, 3);
        x.poke(2108 + 3999, 4);
        loads("4000 bytes", x, 1);
        x.end(0);
        Due.is("save()", x.save(), 2108 + 4000);
        int[][] want = {
            {42, 0}, {43, 0}, {45, 0}, {72, 0}, {73, 0}, {field(30, 22), 3}, {field(30, 23), 232},
            {field(31, 22), 3}, {field(31, 23), 232}, {field(31, 24), 8}, {field(31, 25), 7},
            {field(31, 27), 0}, {field(31, 28), 3}, {field(31, 29), 132}, {951, 5},
            {2108, 1}, {2108 + 1999, 2}, {2108 + 2000, 3}, {2108 + 3999, 4},
        };
        for (int[] w : want) {
            Due.is("tape(" + w[0] + ")", x.tape(w[0]), w[1]);
        }
        // The new samples lie ahead of the old ones, and both would not fit at once.
        for (int i = 0; i < 2; i++) {
            pokePair(x, field(30 + i, 22), 0);
            pokePair(x, field(30 + i, 28), 0);
            pokePair(x, field(1 + i, 22), 1000);
        }
        loads("4000 bytes ahead", x, 1);
        Due.is("save()", x.save(), 2108 + 4000);
        Due.is("length of 1", x.tape(field(1, 23)), 232);
        Due.is("length of 31", x.tape(field(31, 23)), 0);
        Due.is("last byte", x.tape(2108 + 3999), 4);
    }

    private static void playsFromTheBegin() {
        ModulePlayer x = plain(2108);
        x.cell(0, 0, 0, Cells.effect(15, 3));
        x.cell(0, 0, 1, Cells.effect(15, 99));
        x.mute(2, true);
        x.play(7);
        x.load();
        int[] now = {-1, -1, -1, -1, 6, 125, 0, 17, 0};
        for (int what = 0; what < now.length; what++) {
            Due.is("now(" + what + ")", x.now(what), now[what]);
        }
        Due.yes("mute stays", x.mute(2, true));
    }
}
