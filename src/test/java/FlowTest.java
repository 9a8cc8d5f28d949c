/** Promises 16 start, 18 play and 19 now: ROWS, places, JUMPS, BREAKS, LOOPS, DELAYS, AGAIN (Terms 2). */
public final class FlowTest {
    private static final int JUMP = 11;
    private static final int BREAK = 13;
    private static final int MORE = 14;
    private static final int PACE = 15;

    public static void main(String[] args) {
        ticks();
        nowOfOthers();
        speedAndTempo();
        rowsAndPlaces();
        restarts();
        jumps();
        breaks();
        jumpAndBreak();
        theLastChannelIsMeant();
        loops();
        loopsOfTwoChannels();
        delays();
        again();
        startsAnew();
        startForgetsWhatChannelsKeep();
        toldWhilePlayed();
        songToldWhilePlayed();
        Due.end();
    }

    /** SPEED 1, so that each TICK is a ROW. */
    private static ModulePlayer quick() {
        ModulePlayer x = new ModulePlayer(2000);
        x.cell(0, 0, 3, Cells.effect(PACE, 1));
        return x;
    }

    private static void at(ModulePlayer x, int place, int row) {
        Due.is("place", x.now(0), place);
        Due.is("row", x.now(1), row);
    }

    private static void goes(ModulePlayer x, int... placesAndRows) {
        for (int i = 0; i < placesAndRows.length; i += 2) {
            x.play(1);
            at(x, placesAndRows[i], placesAndRows[i + 1]);
        }
    }

    private static void ticks() {
        ModulePlayer x = new ModulePlayer(2000);
        Due.is("play(0)", x.play(0), 0);
        Due.is("now(0)", x.now(0), -1);
        Due.is("play(5)", x.play(5), 5);
        at(x, 0, 0);
        Due.is("tick", x.now(2), 4);
        Due.is("play(0)", x.play(0), 5);
        Due.is("play(2)", x.play(2), 7);
        at(x, 0, 1);
        Due.is("tick", x.now(2), 0);
        for (int n : new int[] {-1, 401, Integer.MAX_VALUE, Integer.MIN_VALUE}) {
            Due.is("play(" + n + ")", x.play(n), -1);
        }
        Due.is("ticks", x.now(8), 7);
        Due.is("play(400)", x.play(400), 407);
        Due.is("ticks", x.now(8), 407);
        // 406 TICKS behind the first one: 67 ROWS and 4 TICKS; the SONG has one place.
        at(x, 0, 3);
        Due.is("tick", x.now(2), 4);
    }

    private static void nowOfOthers() {
        ModulePlayer x = new ModulePlayer(2000);
        x.play(1);
        for (int what : new int[] {-1, 9, 10, Integer.MAX_VALUE, Integer.MIN_VALUE}) {
            Due.is("now(" + what + ")", x.now(what), -1);
        }
    }

    private static void speedAndTempo() {
        ModulePlayer x = new ModulePlayer(10000);
        x.cell(0, 0, 0, Cells.effect(PACE, 2));
        x.cell(0, 1, 1, Cells.effect(PACE, 0));
        x.cell(0, 2, 2, Cells.effect(PACE, 31));
        x.cell(0, 3, 3, Cells.effect(PACE, 32));
        x.cell(0, 4, 3, Cells.effect(PACE, 255));
        x.play(2);
        Due.is("speed 2", x.now(4), 2);
        Due.is("tempo 125", x.now(5), 125);
        Due.is("frames", x.now(3), 200);
        x.play(1);
        at(x, 0, 1);
        Due.is("speed stays", x.now(4), 2);
        x.play(2);
        at(x, 0, 2);
        Due.is("speed 31", x.now(4), 31);
        x.play(30);
        Due.is("tick", x.now(2), 30);
        x.play(1);
        at(x, 0, 3);
        Due.is("speed stays", x.now(4), 31);
        Due.is("tempo 32", x.now(5), 32);
        Due.is("frames", x.now(3), 781);
        x.play(31);
        at(x, 0, 4);
        Due.is("tempo 255", x.now(5), 255);
        Due.is("frames", x.now(3), 98);
    }

    private static void rowsAndPlaces() {
        ModulePlayer x = quick();
        x.song(3, 1);
        x.place(1, 4);
        x.place(2, 0);
        x.play(64);
        at(x, 0, 63);
        goes(x, 1, 0);
        x.play(63);
        at(x, 1, 63);
        goes(x, 2, 0);
        x.play(63);
        at(x, 2, 63);
        goes(x, 1, 0, 1, 1);
    }

    private static void restarts() {
        int[][] restartsAndPlaces = {{0, 0}, {1, 1}, {2, 2}, {3, 0}, {255, 0}};
        for (int[] pair : restartsAndPlaces) {
            ModulePlayer x = quick();
            x.song(3, pair[0]);
            x.cell(0, 1, 0, Cells.effect(BREAK, 0));
            x.play(6);
            at(x, 2, 1);
            goes(x, pair[1], 0);
        }
    }

    private static void jumps() {
        int[][] toldAndPlaces = {{0, 0}, {1, 1}, {3, 3}, {4, 0}, {255, 0}};
        for (int[] pair : toldAndPlaces) {
            ModulePlayer x = quick();
            x.song(4, 2);
            x.cell(0, 2, 1, Cells.effect(JUMP, pair[0]));
            x.play(3);
            goes(x, pair[1], 0, pair[1], 1);
        }
    }

    private static void breaks() {
        int[][] toldAndRows = {{0x00, 0}, {0x12, 12}, {0x63, 63}, {0x64, 0}, {0x0F, 15}, {0x5F, 0}, {0xFF, 0}};
        for (int[] pair : toldAndRows) {
            ModulePlayer x = quick();
            x.song(2, 0);
            x.place(1, 1);
            x.cell(0, 5, 2, Cells.effect(BREAK, pair[0]));
            x.play(6);
            goes(x, 1, pair[1]);
        }
        ModulePlayer x = quick();
        x.cell(0, 1, 0, Cells.effect(BREAK, 0x63));
        goes(x, 0, 0, 0, 1, 0, 63, 0, 0);
    }

    private static void jumpAndBreak() {
        ModulePlayer x = quick();
        x.song(4, 0);
        x.place(3, 1);
        x.cell(0, 1, 0, Cells.effect(BREAK, 0x20));
        x.cell(0, 1, 1, Cells.effect(JUMP, 3));
        x.play(2);
        goes(x, 3, 20, 3, 21);
        ModulePlayer y = quick();
        y.song(4, 0);
        y.cell(0, 1, 3, Cells.effect(BREAK, 0x20));
        y.cell(0, 1, 1, Cells.effect(JUMP, 9));
        y.play(2);
        goes(y, 0, 20, 0, 21);
    }

    private static void theLastChannelIsMeant() {
        ModulePlayer x = quick();
        x.song(9, 0);
        x.cell(0, 1, 0, Cells.effect(JUMP, 3));
        x.cell(0, 1, 2, Cells.effect(JUMP, 4));
        x.play(2);
        goes(x, 4, 0);
        ModulePlayer y = quick();
        y.song(9, 0);
        y.cell(0, 1, 0, Cells.effect(BREAK, 3));
        y.cell(0, 1, 2, Cells.effect(BREAK, 4));
        y.play(2);
        goes(y, 1, 4);
    }

    private static void loops() {
        ModulePlayer x = quick();
        x.cell(0, 2, 1, Cells.effect(MORE, 0x60));
        x.cell(0, 4, 1, Cells.effect(MORE, 0x62));
        goes(x, 0, 0, 0, 1, 0, 2);
        Due.is("looprow", x.channel(1, 12), 2);
        goes(x, 0, 3, 0, 4);
        Due.is("loopleft", x.channel(1, 13), 2);
        goes(x, 0, 2, 0, 3, 0, 4);
        Due.is("loopleft", x.channel(1, 13), 1);
        goes(x, 0, 2, 0, 3, 0, 4);
        Due.is("loopleft", x.channel(1, 13), 0);
        goes(x, 0, 5);
        Due.is("again", x.now(6), 0);
        Due.is("looprow stays", x.channel(1, 12), 2);
        // A LOOP goes before a JUMP or BREAK of its ROW, and stays at its place.
        ModulePlayer y = quick();
        y.song(3, 0);
        y.cell(0, 1, 0, Cells.effect(MORE, 0x61));
        y.cell(0, 1, 1, Cells.effect(JUMP, 2));
        y.cell(0, 1, 2, Cells.effect(BREAK, 0x07));
        goes(y, 0, 0, 0, 1, 0, 0, 0, 1, 2, 7);
    }

    private static void loopsOfTwoChannels() {
        ModulePlayer x = quick();
        x.cell(0, 1, 0, Cells.effect(MORE, 0x60));
        x.cell(0, 2, 2, Cells.effect(MORE, 0x60));
        x.cell(0, 3, 0, Cells.effect(MORE, 0x62));
        x.cell(0, 3, 2, Cells.effect(MORE, 0x61));
        goes(x, 0, 0, 0, 1, 0, 2, 0, 3);
        goes(x, 0, 2, 0, 3);
        Due.is("loopleft of 0", x.channel(0, 13), 1);
        Due.is("loopleft of 2", x.channel(2, 13), 0);
        goes(x, 0, 1, 0, 2, 0, 3);
        Due.is("loopleft of 0", x.channel(0, 13), 0);
        Due.is("loopleft of 2", x.channel(2, 13), 1);
        goes(x, 0, 2, 0, 3);
        Due.is("loopleft of 0", x.channel(0, 13), 2);
    }

    private static void delays() {
        ModulePlayer x = new ModulePlayer(2000);
        x.cell(0, 0, 0, Cells.effect(PACE, 2));
        x.cell(0, 1, 1, Cells.effect(MORE, 0xE2));
        x.cell(0, 2, 0, Cells.effect(MORE, 0xEF));
        x.cell(0, 2, 1, Cells.effect(MORE, 0xE1));
        x.cell(0, 3, 0, Cells.effect(MORE, 0xE3));
        x.cell(0, 3, 1, Cells.effect(MORE, 0xE0));
        int[] lengths = {2, 6, 4, 2, 2};
        for (int row = 0; row < lengths.length; row++) {
            for (int tick = 0; tick < lengths[row]; tick++) {
                goes(x, 0, row);
                Due.is("tick of row " + row, x.now(2), tick);
            }
        }
    }

    private static void again() {
        ModulePlayer x = quick();
        x.song(2, 1);
        x.cell(0, 1, 0, Cells.effect(BREAK, 0));
        goes(x, 0, 0, 0, 1, 1, 0, 1, 1);
        Due.is("again", x.now(6), 0);
        goes(x, 1, 0);
        Due.is("again", x.now(6), 1);
        goes(x, 1, 1, 1, 0);
        Due.is("again", x.now(6), 3);
        // ROWS that begin while any CHANNEL loops do not count, but they were begun.
        ModulePlayer y = quick();
        y.cell(0, 0, 0, Cells.effect(MORE, 0x61));
        y.cell(0, 1, 1, Cells.effect(BREAK, 0));
        goes(y, 0, 0, 0, 0);
        Due.is("again", y.now(6), 0);
        goes(y, 0, 1, 0, 0);
        Due.is("again", y.now(6), 1);
        goes(y, 0, 0, 0, 1);
        Due.is("again", y.now(6), 2);
        // A new ROW that begins while another CHANNEL loops.
        ModulePlayer z = quick();
        z.cell(0, 0, 1, Cells.effect(MORE, 0x61));
        z.cell(0, 0, 0, Cells.effect(MORE, 0x60));
        goes(z, 0, 0);
        z.cell(0, 0, 1, Cells.effect(BREAK, 0x05));
        goes(z, 0, 0, 0, 5);
        Due.is("loopleft", z.channel(1, 13), 1);
        z.cell(0, 5, 1, Cells.effect(BREAK, 0x05));
        goes(z, 0, 6);
        z.cell(0, 7, 2, Cells.effect(BREAK, 0x06));
        z.cell(0, 7, 1, Cells.effect(MORE, 0x61));
        goes(z, 0, 7);
        Due.is("loopleft", z.channel(1, 13), 0);
        Due.is("again", z.now(6), 0);
        goes(z, 0, 6);
        Due.is("again", z.now(6), 1);
    }

    private static void startsAnew() {
        ModulePlayer x = new ModulePlayer(8000);
        x.sample(1, 2000, 3, 64);
        x.wave(1, 0, 50);
        x.cell(0, 0, 0, Cells.of(428, 1, 4, 0x34));
        x.cell(0, 0, 1, Cells.of(300, 1, 7, 0x56));
        x.cell(0, 0, 2, Cells.effect(PACE, 40));
        x.cell(0, 1, 0, Cells.of(300, 1, 3, 9));
        x.cell(0, 1, 1, Cells.effect(MORE, 0x60));
        x.cell(0, 1, 2, Cells.effect(MORE, 0x61));
        x.cell(0, 1, 3, Cells.effect(PACE, 3));
        x.mute(3, true);
        x.play(20);
        x.start();
        int[] now = {-1, -1, -1, -1, 6, 125, 0, 17, 0};
        for (int what = 0; what < now.length; what++) {
            Due.is("now(" + what + ")", x.now(what), now[what]);
        }
        for (int c = 0; c < 4; c++) {
            for (int what = 0; what < 14; what++) {
                Due.is("channel(" + c + ", " + what + ")", x.channel(c, what), 0);
            }
        }
        Due.is("frame(0, 0)", x.frame(0, 0), 0);
        Due.yes("mute stays", x.mute(3, true));
        Due.is("the module stays", x.cellOf(0, 0, 2), Cells.effect(PACE, 40));
        Due.is("play(1)", x.play(1), 1);
        at(x, 0, 0);
        Due.is("again", x.now(6), 0);
        Due.is("frame(0, 0)", x.frame(0, 0), 50 * 64);
    }

    private static void startForgetsWhatChannelsKeep() {
        ModulePlayer x = quick();
        x.sample(1, 2000, 0, 32);
        x.cell(0, 1, 0, Cells.of(428, 1, 9, 5));
        x.cell(0, 1, 1, Cells.of(428, 1, 3, 5));
        x.cell(0, 1, 2, Cells.effect(4, 0x88));
        x.cell(0, 1, 3, Cells.effect(7, 0x88));
        x.cell(0, 2, 2, Cells.effect(MORE, 0x42));
        x.cell(0, 2, 3, Cells.effect(MORE, 0x72));
        x.cell(0, 3, 2, Cells.effect(MORE, 0x62));
        x.cell(0, 3, 3, Cells.effect(MORE, 0xE3));
        x.play(4);
        Due.is("loopleft", x.channel(2, 13), 2);
        x.start();
        for (int row = 0; row < 4; row++) {
            for (int c = 0; c < 4; c++) {
                x.cell(0, row, c, 0);
            }
        }
        x.cell(0, 0, 0, Cells.of(856, 1, 9, 0));
        x.cell(0, 0, 1, Cells.note(300, 1));
        x.cell(0, 1, 1, Cells.of(320, 0, 3, 0));
        x.cell(0, 0, 2, Cells.of(300, 1, 4, 0));
        x.cell(0, 0, 3, Cells.of(300, 1, 7, 0));
        x.play(1);
        // 40 FRAMES at 2000 a second with PERIOD 856 take 82.87 bytes.
        Due.is("offset", x.channel(0, 3), 82);
        x.play(5);
        Due.is("vib and form", x.channel(2, 5), 300);
        Due.is("vibplace", x.channel(2, 10), 0);
        Due.is("trem and form", x.channel(3, 6), 32);
        Due.is("tremplace", x.channel(3, 11), 0);
        x.play(6);
        at(x, 0, 1);
        Due.is("tick", x.now(2), 5);
        Due.is("porta", x.channel(1, 2), 300);
        Due.is("again", x.now(6), 0);
    }

    private static void toldWhilePlayed() {
        ModulePlayer x = new ModulePlayer(2000);
        x.sample(1, 4, 0, 10);
        x.cell(0, 0, 0, Cells.of(428, 1, 10, 0x10));
        x.play(2);
        Due.is("volume", x.channel(0, 1), 11);
        x.cell(0, 0, 0, Cells.effect(10, 0x01));
        x.place(0, 5);
        x.cell(5, 1, 0, Cells.effect(12, 33));
        x.play(1);
        Due.is("the row's cells stay", x.channel(0, 1), 12);
        x.play(4);
        at(x, 0, 1);
        Due.is("the next row's are new", x.channel(0, 1), 33);
    }

    private static void songToldWhilePlayed() {
        // What is told of the SONG behind a ROW's last TICK holds for the next ROW.
        ModulePlayer x = quick();
        x.song(1, 0);
        x.cell(0, 1, 0, Cells.effect(BREAK, 0));
        x.play(2);
        x.song(2, 0);
        goes(x, 1, 0, 1, 1);
        x.song(3, 0);
        x.cell(0, 1, 0, Cells.effect(JUMP, 2));
        goes(x, 2, 0, 2, 1);
        // A place that the shorter SONG has no more is RESTART.
        x.song(2, 1);
        goes(x, 0, 0, 0, 1);
    }
}
