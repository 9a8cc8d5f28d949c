/** Promises 17 mute and 21 frame, and SUM and FRAMES of promise 19: MIXING (Terms 4). */
public final class MixTest {
    public static void main(String[] args) {
        steps();
        endsWithoutLoop();
        aLoopOfTwoIsNone();
        loops();
        loopFromBehindIt();
        justTheEnd();
        sides();
        mutes();
        sums();
        noSuchFrame();
        samplesAtOnce();
        heardPeriodsAndVolumes();
        Due.end();
    }

    private static ModulePlayer ramp(int length, int volume) {
        ModulePlayer x = new ModulePlayer(8000);
        x.sample(1, length, 0, volume);
        for (int i = 0; i < length; i++) {
            x.wave(1, i, i - 50);
        }
        return x;
    }

    private static void steps() {
        ModulePlayer x = ramp(200, 64);
        x.cell(0, 0, 0, Cells.note(428, 1));
        x.play(1);
        long step = 3546895L * 65536 / (428L * 8000);
        Due.is("step", step, 67888);
        for (int i = 0; i < 160; i++) {
            int at = (int) (i * step >> 16);
            Due.is("frame " + i, x.frame(i, 0), at < 178 ? (at - 50) * 64 : 0);
        }
        Due.is("place", x.channel(0, 3), 160 * step >> 16);
        Due.is("place modulo 65536", x.channel(0, 9), 160 * step & 65535);
    }

    private static void endsWithoutLoop() {
        ModulePlayer x = ramp(10, 1);
        x.cell(0, 0, 2, Cells.note(428, 1));
        x.cell(0, 1, 2, Cells.note(0, 1));
        x.play(1);
        // The places of frames 0 to 9 are below 10 and a half; frame 10 would be at 10.36.
        for (int i = 0; i < 160; i++) {
            Due.is("frame " + i, x.frame(i, 1), i < 10 ? i - 50 : 0);
        }
        Due.is("silent", x.channel(2, 4), 0);
        Due.is("place", x.channel(2, 3), 10);
        Due.is("place modulo 65536", x.channel(2, 9), 10 * 67888 % 65536);
        x.play(6);
        Due.is("still silent", x.channel(2, 4), 0);
        Due.is("place stays", x.channel(2, 3), 10);
    }

    private static void aLoopOfTwoIsNone() {
        ModulePlayer x = ramp(10, 1);
        x.loop(1, 4, 2);
        x.cell(0, 0, 2, Cells.note(428, 1));
        x.play(1);
        Due.is("frame 9", x.frame(9, 1), -41);
        Due.is("frame 10", x.frame(10, 1), 0);
        Due.is("silent", x.channel(2, 4), 0);
    }

    private static void loops() {
        ModulePlayer x = ramp(20, 1);
        x.loop(1, 4, 8);
        x.cell(0, 0, 3, Cells.note(214, 1));
        x.play(1);
        long step = 3546895L * 65536 / (214L * 8000);
        long place = 0;
        for (int i = 0; i < 160; i++) {
            Due.is("frame " + i, x.frame(i, 0), (place >> 16) - 50);
            place += step;
            while (place >= 12 * 65536) {
                place -= 8 * 65536;
            }
        }
        Due.is("sounds", x.channel(3, 4), 1);
        Due.is("place", x.channel(3, 3), place >> 16);
        Due.is("place modulo 65536", x.channel(3, 9), place & 65535);
        // A step of more than the LOOP goes round several times.
        ModulePlayer y = new ModulePlayer(2000);
        y.sample(1, 6, 0, 1);
        y.loop(1, 2, 4);
        y.cell(0, 0, 0, Cells.note(113, 1));
        y.play(1);
        step = 3546895L * 65536 / (113L * 2000);
        place = 2 * 65536 + (40 * step - 2 * 65536) % (4 * 65536);
        Due.is("place", y.channel(0, 3), place >> 16);
        Due.is("place modulo 65536", y.channel(0, 9), place & 65535);
    }

    private static void loopFromBehindIt() {
        ModulePlayer x = new ModulePlayer(8000);
        x.sample(1, 600, 0, 1);
        x.loop(1, 2, 4);
        x.wave(1, 512, 99);
        x.wave(1, 3, 88);
        x.cell(0, 0, 0, Cells.of(428, 1, 9, 2));
        x.play(1);
        // Behind 512 comes 513.036, which is 127 times 4 bytes less: 5.036; then 2.07, 3.1.
        Due.is("frame 0", x.frame(0, 0), 99);
        Due.is("frame 1", x.frame(1, 0), 0);
        Due.is("frame 2", x.frame(2, 0), 0);
        Due.is("frame 3", x.frame(3, 0), 88);
        Due.is("sounds", x.channel(0, 4), 1);
    }

    /** With this rate, PERIOD and TEMPO a TICK has 240 FRAMES and takes 150 bytes, to the bit. */
    private static ModulePlayer even(int length) {
        ModulePlayer x = new ModulePlayer(12500);
        x.sample(1, length, 0, 1);
        x.sample(2, 4, 0, 1);
        for (int i = 0; i < 4; i++) {
            x.wave(2, i, 99);
        }
        x.cell(0, 0, 0, Cells.note(454, 1));
        x.cell(0, 0, 1, Cells.effect(15, 130));
        return x;
    }

    private static void place(String what, ModulePlayer x, int bytes, int sounds) {
        Due.is(what + ": place", x.channel(0, 3), bytes);
        Due.is(what + ": place modulo 65536", x.channel(0, 9), 0);
        Due.is(what + ": sounds", x.channel(0, 4), sounds);
    }

    private static void justTheEnd() {
        ModulePlayer x = even(150);
        x.play(1);
        Due.is("frames", x.now(3), 240);
        place("the end", x, 150, 0);
        ModulePlayer y = even(152);
        y.play(1);
        place("ahead of the end", y, 150, 1);
        y.sample(1, 150, 0, 1);
        y.play(1);
        place("shorter meanwhile", y, 150, 0);
        Due.is("it adds nothing", y.frame(0, 0), 0);
        ModulePlayer z = even(200);
        z.loop(1, 50, 100);
        z.play(1);
        place("the end of the loop", z, 50, 1);
        z.loop(1, 50, 102);
        z.start();
        z.play(1);
        place("ahead of the end of the loop", z, 150, 1);
    }

    /** Channels 0 to 3 with bytes of 1, 10, 100 and 127. */
    private static ModulePlayer four() {
        ModulePlayer x = new ModulePlayer(8000);
        int[] bytes = {1, 10, 100, 127};
        for (int c = 0; c < 4; c++) {
            x.sample(c + 1, 4, 0, c + 1);
            for (int i = 0; i < 4; i++) {
                x.wave(c + 1, i, bytes[c]);
            }
            x.loop(c + 1, 0, 4);
            x.cell(0, 0, c, Cells.note(428, c + 1));
        }
        return x;
    }

    private static void sides() {
        ModulePlayer x = four();
        x.play(1);
        for (int i = 0; i < 160; i += 53) {
            Due.is("left", x.frame(i, 0), 1 + 4 * 127);
            Due.is("right", x.frame(i, 1), 2 * 10 + 3 * 100);
        }
    }

    private static void mutes() {
        ModulePlayer x = four();
        Due.no("mute(0, true)", x.mute(0, true));
        Due.no("mute(2, true)", x.mute(2, true));
        Due.yes("mute(2, true)", x.mute(2, true));
        for (int c : new int[] {-1, 4, Integer.MAX_VALUE, Integer.MIN_VALUE}) {
            Due.no("mute(" + c + ", true)", x.mute(c, true));
            Due.no("mute(" + c + ", true)", x.mute(c, true));
        }
        x.play(1);
        Due.is("left", x.frame(0, 0), 4 * 127);
        Due.is("right", x.frame(0, 1), 2 * 10);
        Due.is("it goes on", x.channel(0, 9), x.channel(1, 9));
        Due.is("it goes on", x.channel(0, 3), x.channel(1, 3));
        Due.is("it sounds", x.channel(0, 4), 1);
        Due.is("its volume", x.channel(2, 6), 3);
        Due.yes("mute(0, false)", x.mute(0, false));
        Due.no("mute(0, false)", x.mute(0, false));
        Due.is("the latest tick stays", x.frame(0, 0), 4 * 127);
        x.play(1);
        Due.is("left", x.frame(0, 0), 1 + 4 * 127);
        Due.is("right", x.frame(0, 1), 2 * 10);
        x.start();
        x.play(1);
        Due.is("right", x.frame(0, 1), 2 * 10);
    }

    private static void sums() {
        ModulePlayer x = four();
        int sum = 17;
        Due.is("sum", x.now(7), sum);
        for (int tick = 0; tick < 9; tick++) {
            x.play(1);
            for (int i = 0; i < 160; i++) {
                sum = 31 * sum + 509;
                sum = 31 * sum + 320;
            }
            Due.is("sum", x.now(7), sum);
        }
        x.start();
        Due.is("sum", x.now(7), 17);
    }

    private static void noSuchFrame() {
        ModulePlayer x = four();
        Due.is("ahead of any", x.frame(0, 0), 0);
        x.cell(0, 1, 0, Cells.effect(15, 250));
        x.play(1);
        int[][] wrong = {
            {-1, 0}, {160, 0}, {160, 1}, {0, 2}, {0, -1}, {Integer.MAX_VALUE, 0}, {Integer.MIN_VALUE, 1},
            {0, Integer.MAX_VALUE}, {0, Integer.MIN_VALUE},
        };
        for (int[] w : wrong) {
            Due.is("frame(" + w[0] + ", " + w[1] + ")", x.frame(w[0], w[1]), 0);
        }
        Due.is("frame(159, 0)", x.frame(159, 0), 509);
        x.play(6);
        Due.is("frames", x.now(3), 80);
        Due.is("frame(79, 1)", x.frame(79, 1), 320);
        Due.is("frame(80, 1)", x.frame(80, 1), 0);
    }

    private static void samplesAtOnce() {
        ModulePlayer x = four();
        x.play(1);
        for (int i = 0; i < 4; i++) {
            x.wave(1, i, -1);
        }
        x.play(1);
        Due.is("its bytes", x.frame(0, 0), -1 + 4 * 127);
        x.sample(4, 2, 5, 60);
        x.play(1);
        Due.is("its length", x.frame(159, 0), -1);
        Due.is("silent", x.channel(3, 4), 0);
        Due.is("the channel's volume stays", x.channel(3, 1), 4);
        Due.is("the channel's tune stays", x.channel(3, 7), 0);
        x.sample(1, 0, 0, 0);
        x.play(1);
        Due.is("nothing", x.frame(0, 0), 0);
        Due.is("silent", x.channel(0, 4), 0);
        Due.is("the others", x.frame(0, 1), 320);
    }

    private static void heardPeriodsAndVolumes() {
        ModulePlayer x = ramp(200, 10);
        x.cell(0, 0, 0, Cells.of(856, 1, 0, 0xC0));
        x.play(2);
        // Twelve halftones above 856 are 424; the place behind the first TICK is 82.87.
        Due.is("heard", x.channel(0, 5), 424);
        long first = 160 * (3546895L * 65536 / (856L * 8000));
        long second = 3546895L * 65536 / (424L * 8000);
        Due.is("frame(0, 0)", x.frame(0, 0), ((first >> 16) - 50) * 10);
        Due.is("frame(9, 0)", x.frame(9, 0), ((first + 9 * second >> 16) - 50) * 10);
        ModulePlayer y = four();
        y.cell(0, 1, 0, Cells.effect(14, 0x72));
        y.cell(0, 2, 0, Cells.effect(7, 0x1F));
        y.play(14);
        // 1 and fifteen times 255 by 64, which is 59.
        Due.is("heard", y.channel(0, 6), 60);
        Due.is("frame(0, 0)", y.frame(0, 0), 60 + 4 * 127);
    }
}
