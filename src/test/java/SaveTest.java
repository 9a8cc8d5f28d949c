/** Promise 7: save. */
public final class SaveTest {
    public static void main(String[] args) {
        writes();
        roundTrip();
        tooLong();
        placesBehindTheSong();
        Due.end();
    }

    private static void writes() {
        ModulePlayer x = new ModulePlayer(8000);
        x.feed(-1, -1, -1, -1, -1);
        x.poke(8999, 1);
        x.sample(1, 2000, -8, 64);
        x.sample(31, 514, 7, 1);
        x.sample(2, 4, -1, 0);
        x.loop(1, 1000, 600);
        x.loop(31, 514, 2);
        x.wave(1, 0, -128);
        x.wave(1, 1999, 127);
        x.wave(2, 3, -1);
        x.wave(31, 513, 5);
        x.song(3, 255);
        x.place(0, 1);
        x.place(2, 1);
        x.cell(0, 0, 0, Cells.of(0xABC, 31, 13, 0xEF));
        x.cell(1, 63, 3, Cells.of(0x0FF, 15, 1, 2));
        int end = 1084 + 2048;
        Due.is("save()", x.save(), end + 2000 + 4 + 514);
        for (int i = 0; i < 42; i++) {
            Due.is("tape(" + i + ")", x.tape(i), 0);
        }
        bytes(x, 42, 1000 >> 8, 1000 & 255, 8, 64, 500 >> 8, 500 & 255, 300 >> 8, 300 & 255);
        bytes(x, 72, 0, 2, 15, 0, 0, 0, 0, 0);
        bytes(x, 20 + 30 * 30 + 22, 1, 1, 7, 1, 1, 1, 0, 1);
        bytes(x, 950, 3, 255, 1, 0, 1, 0);
        bytes(x, 1079, 0, 77, 46, 75, 46, 0x1A, 0xBC, 0xFD, 0xEF, 0);
        bytes(x, end - 4, 0x00, 0xFF, 0xF1, 2);
        bytes(x, end, 128, 0);
        bytes(x, end + 1998, 0, 127, 0, 0, 0, 255, 0);
        bytes(x, end + 2004 + 513, 5, -1);
    }

    private static void bytes(ModulePlayer x, int at, int... want) {
        for (int i = 0; i < want.length; i++) {
            Due.is("tape(" + (at + i) + ")", x.tape(at + i), want[i]);
        }
    }

    private static ModulePlayer full() {
        ModulePlayer x = new ModulePlayer(8000);
        x.sample(3, 6, -3, 40);
        x.loop(3, 2, 4);
        for (int i = 0; i < 6; i++) {
            x.wave(3, i, 40 * i - 100);
        }
        for (int row = 0; row < 64; row++) {
            x.cell(0, row, row % 4, row * 8388607 + 5);
        }
        return x;
    }

    private static void roundTrip() {
        ModulePlayer cells = full();
        Due.is("save()", cells.save(), 2114);
        Due.is("load()", cells.load(), 1);
        for (int row = 0; row < 64; row++) {
            Due.is("cellOf row " + row, cells.cellOf(0, row, row % 4), row * 8388607 + 5);
        }
        // An object for some bytes each, since no more than 512 calls of one are promised.
        for (int from = 0; from < 2114; from += 200) {
            ModulePlayer once = full();
            ModulePlayer twice = full();
            once.save();
            twice.save();
            Due.is("load()", twice.load(), 1);
            twice.end(0);
            Due.is("save()", twice.save(), 2114);
            for (int i = from; i < from + 200; i++) {
                Due.is("tape(" + i + ")", twice.tape(i), once.tape(i));
            }
        }
    }

    private static void tooLong() {
        ModulePlayer x = new ModulePlayer(8000);
        x.feed(0x05000000, 0, 0, 0, 0);
        x.place(0, 6);
        x.sample(1, 748, 0, 0);
        Due.is("save() of 9000", x.save(), 9000);
        Due.is("tape(8999)", x.tape(8999), 0);
        x.end(0);
        x.feed(0x05000000, 0, 0, 0, 0);
        x.sample(1, 750, 0, 0);
        Due.is("save() of 9002", x.save(), -1);
        Due.is("the tape stays", x.tape(0), 5);
        Due.is("the tape stays", x.tape(20), -1);
        x.sample(1, 0, 0, 0);
        x.place(0, 7);
        Due.is("save() of 8 patterns", x.save(), -1);
    }

    private static void placesBehindTheSong() {
        ModulePlayer x = new ModulePlayer(8000);
        x.place(1, 3);
        x.place(127, 7);
        Due.is("save()", x.save(), 2108);
        Due.is("tape(953)", x.tape(953), 0);
        Due.is("tape(1079)", x.tape(1079), 0);
        x.song(2, 0);
        Due.is("save()", x.save(), 1084 + 4096);
        Due.is("tape(953)", x.tape(953), 3);
        Due.is("tape(1079)", x.tape(1079), 0);
    }
}
