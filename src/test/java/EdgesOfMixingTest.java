import java.math.BigInteger;

/** Terms 4 and promises 1 (a new object), 17 mute and 21 frame, sentence by sentence, at their edges. */
public final class EdgesOfMixingTest {
    private static final int MAX = Integer.MAX_VALUE;
    private static final int MIN = Integer.MIN_VALUE;

    public static void main(String[] args) {
        newObjects();
        mixing();
        calls();
        Due.end();
    }

    private static void newObjects() {
        Sentence.holds("RATE (2000 .. 16000; others count as the nearest).", EdgesOfMixingTest::rates);
        Sentence.holds("An empty MODULE: SAMPLES of LENGTH 0, VOLUME 0, TUNE 0; CELLS of 0; a SONG of one place"
                + " with PATTERN 0; RESTART 0.", EdgesOfMixingTest::emptyModule);
        Sentence.holds("`NONE = -1`: There is none.", () -> Due.is("NONE", ModulePlayer.NONE, -1));
    }

    private static void mixing() {
        Sentence.holds("A TICK has RATE times 5, by twice TEMPO, cut, FRAMES.", EdgesOfMixingTest::frames);
        Sentence.holds("of each CHANNEL that SOUNDS (with a PERIOD that isn't 0)", EdgesOfMixingTest::withoutPeriod);
        Sentence.holds("if PLACE isn't below its SAMPLE's LENGTH, it is silent and adds nothing",
                EdgesOfMixingTest::placeAtTheLength);
        Sentence.holds("else its SAMPLE's byte at PLACE by 65536 (cut), times the VOLUME that sounds",
                EdgesOfMixingTest::bytesTimesVolume);
        Sentence.holds("then PLACE is 3546895 times 65536 by (the PERIOD that sounds times RATE), cut, more",
                EdgesOfMixingTest::steps);
        Sentence.holds("if its SAMPLE has a LOOP: as long as PLACE is not below START and LOOP, it is LOOP less",
                EdgesOfMixingTest::loops);
        Sentence.holds("else if it isn't below LENGTH, it is silent.", EdgesOfMixingTest::ends);
        Sentence.holds("LEFT is the sum of CHANNELS 0 and 3, RIGHT that of 1 and 2.", EdgesOfMixingTest::sides);
        Sentence.holds("(A CHANNEL that is MUTE goes on, but adds nothing; start() and load() leave that.)",
                EdgesOfMixingTest::mutes);
        Sentence.holds("SUM: s is 17 at the begin of PLAYING; for each FRAME s becomes 31 s and LEFT, then 31 s and RIGHT"
                + " (32 bits, it wraps).", EdgesOfMixingTest::sums);
    }

    private static void calls() {
        Sentence.holds("A CHANNEL is MUTE, or not: what it was", EdgesOfMixingTest::whatItWas);
        Sentence.holds("what it was; false if there is none such.", EdgesOfMixingTest::muteRefuses);
        Sentence.holds("LEFT (side 0) or RIGHT (1) of FRAME i of the latest TICK; 0 if there is none such.",
                EdgesOfMixingTest::framesOfTheLatest);
    }

    private static void rates() {
        int[][] toldAndRate = {
            {2000, 2000}, {1999, 2000}, {0, 2000}, {-1, 2000}, {MIN, 2000}, {2001, 2001}, {8000, 8000},
            {15999, 15999}, {16000, 16000}, {16001, 16000}, {MAX, 16000},
        };
        for (int[] w : toldAndRate) {
            ModulePlayer x = new ModulePlayer(w[0]);
            x.sample(1, 2000, 0, 1);
            x.cell(0, 0, 0, Cells.note(856, 1));
            x.play(1);
            int frames = w[1] * 5 / 250;
            Due.is("frames at " + w[0], x.now(3), frames);
            long place = frames * (3546895L * 65536 / (856L * w[1]));
            Due.is("place at " + w[0], x.channel(0, 3), place >> 16);
            Due.is("place modulo 65536 at " + w[0], x.channel(0, 9), place & 65535);
        }
    }

    private static void emptyModule() {
        for (int s = 1; s <= 31; s++) {
            ModulePlayer x = new ModulePlayer(8000);
            Due.no("a byte of sample " + s, x.wave(s, 0, 0));
            x.cell(0, 0, 0, Cells.note(428, s));
            x.play(1);
            Due.is("volume of " + s, x.channel(0, 1), 0);
            Due.is("tune of " + s, x.channel(0, 7), 0);
            Due.is("silent", x.channel(0, 4), 0);
        }
        for (int pattern = 0; pattern < 8; pattern++) {
            ModulePlayer x = new ModulePlayer(8000);
            for (int i = 0; i < 256; i++) {
                Due.is("cellOf " + pattern + " " + i, x.cellOf(pattern, i / 4, i % 4), 0);
            }
        }
        for (int from = 0; from < 2200; from += 400) {
            ModulePlayer x = new ModulePlayer(8000);
            Due.is("save()", x.save(), 2108);
            for (int i = from; i < from + 400; i++) {
                int mark = i == 950 ? 1 : i == 1080 ? 77 : i == 1082 ? 75 : i == 1081 || i == 1083 ? 46 : 0;
                Due.is("tape(" + i + ")", x.tape(i), i < 2108 ? mark : -1);
            }
        }
        ModulePlayer x = new ModulePlayer(2000);
        x.cell(0, 0, 0, Cells.effect(15, 1));
        x.play(65);
        Due.is("one place", x.now(0), 0);
        Due.is("its row", x.now(1), 0);
        Due.is("once more", x.now(6), 1);
        Due.is("no bytes on the tape", x.tape(0), -1);
    }

    private static void frames() {
        for (int rate : new int[] {2000, 2001, 8000, 15999, 16000}) {
            for (int tempo = 32; tempo < 256; tempo++) {
                ModulePlayer x = four(rate);
                x.cell(0, 1, 0, Cells.effect(15, tempo));
                x.play(7);
                int frames = rate * 5 / (2 * tempo);
                Due.is("frames of rate " + rate + " tempo " + tempo, x.now(3), frames);
                Due.is("the last one", x.frame(frames - 1, 0), 509);
                Due.is("none behind it", x.frame(frames, 0), 0);
                Due.is("none behind it", x.frame(frames, 1), 0);
            }
        }
    }

    /** Channels 0 to 3 with bytes of 1, 10, 100 and 127 at volumes 1 to 4: left 509, right 320. */
    private static ModulePlayer four(int rate) {
        ModulePlayer x = new ModulePlayer(rate);
        int[] bytes = {1, 10, 100, 127};
        for (int c = 0; c < 4; c++) {
            x.sample(c + 1, 4, 0, c + 1);
            for (int i = 0; i < 4; i++) {
                x.wave(c + 1, i, bytes[c]);
            }
            x.loop(c + 1, 0, 4);
            x.cell(0, 0, c, Cells.note(428, c + 1));
        }
        return x;
    }

    private static void withoutPeriod() {
        // Struck without a PERIOD it sounds, but nothing is heard and its PLACE stays.
        ModulePlayer x = four(8000);
        x.cell(0, 0, 0, Cells.of(0, 1, 14, 0x91));
        x.play(2);
        Due.is("it sounds", x.channel(0, 4), 1);
        Due.is("its volume", x.channel(0, 6), 1);
        Due.is("its place", x.channel(0, 3), 0);
        Due.is("its place", x.channel(0, 9), 0);
        Due.is("left", x.frame(0, 0), 508);
        // With a PERIOD, but silent, it adds nothing and stays.
        ModulePlayer y = four(8000);
        y.cell(0, 0, 0, Cells.of(428, 1, 9, 1));
        y.play(2);
        Due.is("silent", y.channel(0, 4), 0);
        Due.is("its place", y.channel(0, 3), 256);
        Due.is("left", y.frame(0, 0), 508);
    }

    /** With this rate, PERIOD and TEMPO a TICK has 240 FRAMES and takes 150 bytes, to the bit. */
    private static ModulePlayer even(int length) {
        ModulePlayer x = new ModulePlayer(12500);
        x.sample(1, length, 0, 1);
        // Behind its bytes lie others, which must not be heard.
        x.sample(2, 4, 0, 1);
        for (int i = 0; i < 4; i++) {
            x.wave(2, i, 99);
        }
        x.cell(0, 0, 0, Cells.note(454, 1));
        x.cell(0, 0, 1, Cells.effect(15, 130));
        return x;
    }

    private static void at(String what, ModulePlayer x, int bytes, int sounds) {
        Due.is(what + ": place", x.channel(0, 3), bytes);
        Due.is(what + ": place modulo 65536", x.channel(0, 9), 0);
        Due.is(what + ": sounds", x.channel(0, 4), sounds);
    }

    private static void placeAtTheLength() {
        for (int length : new int[] {148, 150, 152}) {
            ModulePlayer x = even(200);
            x.play(1);
            at("of 200", x, 150, 1);
            // The SAMPLE becomes shorter, or has one byte more than the PLACE.
            x.sample(1, length, 0, 1);
            if (length > 150) {
                x.wave(1, 150, 77);
            }
            x.play(1);
            Due.is("of " + length + " now", x.frame(0, 0), length > 150 ? 77 : 0);
            Due.is("silent", x.channel(0, 4), 0);
            if (length <= 150) {
                at("it stays", x, 150, 0);
            }
        }
        ModulePlayer loop = even(200);
        loop.play(1);
        loop.sample(1, 150, 0, 1);
        loop.wave(1, 0, 5);
        loop.loop(1, 0, 150);
        loop.play(1);
        at("a loop does not help it", loop, 150, 0);
        Due.is("it adds nothing", loop.frame(0, 0), 0);
    }

    private static void bytesTimesVolume() {
        int[] bytes = {-128, -1, 0, 1, 127, 5};
        for (int volume : new int[] {0, 1, 63, 64}) {
            ModulePlayer x = new ModulePlayer(8000);
            x.sample(1, 6, 0, volume);
            for (int i = 0; i < bytes.length; i++) {
                x.wave(1, i, bytes[i]);
            }
            x.cell(0, 0, 0, Cells.note(856, 1));
            x.play(1);
            // A FRAME takes 0.518 bytes: their places are 0, 0.5, 1.04, 1.6, 2.07, 2.6, 3.1, 3.6, 4.1, 4.7, 5.2, 5.7.
            for (int i = 0; i < 12; i++) {
                Due.is("frame " + i + " at volume " + volume, x.frame(i, 0), bytes[i / 2] * volume);
            }
            Due.is("frame 12", x.frame(12, 0), 0);
        }
        // A tremolo of form 2: 15 times 255 by 64, 59 more or less than VOLUME.
        ModulePlayer y = four(8000);
        y.cell(0, 1, 3, Cells.effect(14, 0x72));
        y.cell(0, 2, 3, Cells.effect(7, 0x1F));
        y.play(14);
        Due.is("the volume that sounds", y.channel(3, 6), 63);
        Due.is("left", y.frame(0, 0), 1 + 63 * 127);
    }

    private static void steps() {
        for (int rate : new int[] {2000, 2001, 8000, 11025, 16000}) {
            for (int period : new int[] {113, 114, 300, 427, 428, 855, 856}) {
                ModulePlayer x = new ModulePlayer(rate);
                x.sample(1, 2000, 0, 1);
                x.cell(0, 0, 0, Cells.note(period, 1));
                x.play(1);
                long place = (long) (rate * 5 / 250) * (3546895L * 65536 / ((long) period * rate));
                Due.is("place by " + period + " at " + rate, x.channel(0, 3), place >> 16);
                Due.is("place modulo 65536 by " + period + " at " + rate, x.channel(0, 9), place & 65535);
            }
        }
        // The least PERIOD that sounds, 54, and a vibrato's.
        ModulePlayer least = new ModulePlayer(16000);
        least.sample(1, 2000, 0, 1);
        least.cell(0, 0, 0, Cells.of(113, 1, 0, 0xF0));
        least.play(2);
        Due.is("the period that sounds", least.channel(0, 5), 54);
        long place = 320 * (3546895L * 65536 / (113L * 16000)) + 320 * (3546895L * 65536 / (54L * 16000));
        Due.is("its place", least.channel(0, 3), place >> 16);
        Due.is("its place modulo 65536", least.channel(0, 9), place & 65535);
        ModulePlayer vibrato = new ModulePlayer(2000);
        vibrato.sample(1, 2000, 0, 1);
        vibrato.cell(0, 0, 0, Cells.of(856, 1, 14, 0x42));
        vibrato.cell(0, 1, 0, Cells.of(856, 1, 4, 0x1F));
        vibrato.play(8);
        place = 40 * (3546895L * 65536 / (856L * 2000)) + 40 * (3546895L * 65536 / (885L * 2000));
        Due.is("its place", vibrato.channel(0, 3), place >> 16);
        Due.is("its place modulo 65536", vibrato.channel(0, 9), place & 65535);
    }

    private static void loops() {
        int[][] startLoopPlace = {
            {0, 150, 0}, {50, 100, 50}, {146, 4, 146}, {0, 152, 150}, {50, 102, 150}, {148, 4, 150},
            {0, 148, 2}, {50, 98, 52}, {0, 74, 2}, {0, 76, 74}, {160, 30, 150}, {0, 10, 0}, {2, 4, 2}, {0, 4, 2},
        };
        for (int[] w : startLoopPlace) {
            ModulePlayer x = even(200);
            x.loop(1, w[0], w[1]);
            x.play(1);
            at("start " + w[0] + " loop " + w[1], x, w[2], 1);
        }
        // Ahead of START nothing is less, also where START is above LOOP.
        ModulePlayer ahead = new ModulePlayer(8000);
        ahead.sample(1, 20, 0, 1);
        for (int i = 0; i < 20; i++) {
            ahead.wave(1, i, i + 1);
        }
        ahead.loop(1, 12, 4);
        ahead.cell(0, 0, 0, Cells.note(428, 1));
        ahead.play(1);
        long due = 0;
        for (int i = 0; i < 160; i++) {
            Due.is("frame " + i + " of a loop behind 12", ahead.frame(i, 0), (due >> 16) + 1);
            due += 67888;
            while (due >= 16 * 65536) {
                due -= 4 * 65536;
            }
        }
        ModulePlayer whole = even(150);
        whole.loop(1, 0, 150);
        whole.play(1);
        at("a loop up to the length", whole, 0, 1);
        // One FRAME takes more than the LOOP; and from behind the LOOP it comes into it.
        ModulePlayer fast = new ModulePlayer(2000);
        fast.sample(1, 6, 0, 1);
        fast.loop(1, 2, 4);
        fast.cell(0, 0, 0, Cells.note(113, 1));
        fast.play(1);
        long place = 2 * 65536 + (40 * (3546895L * 65536 / (113L * 2000)) - 2 * 65536) % (4 * 65536);
        Due.is("place", fast.channel(0, 3), place >> 16);
        Due.is("place modulo 65536", fast.channel(0, 9), place & 65535);
        ModulePlayer behind = new ModulePlayer(8000);
        behind.sample(1, 600, 0, 1);
        behind.loop(1, 2, 4);
        behind.wave(1, 512, 99);
        behind.wave(1, 5, 88);
        behind.cell(0, 0, 0, Cells.of(428, 1, 9, 2));
        behind.play(1);
        Due.is("the byte behind the loop is heard", behind.frame(0, 0), 99);
        Due.is("then 127 loops less", behind.frame(1, 0), 88);
        Due.is("it goes on", behind.channel(0, 4), 1);
    }

    private static void ends() {
        for (int loop : new int[] {0, 2}) {
            ModulePlayer x = even(150);
            x.loop(1, 20, loop);
            x.wave(1, 149, 77);
            x.play(1);
            at("just at the length", x, 150, 0);
            Due.is("its last byte is heard", x.frame(239, 0), 77);
            ModulePlayer y = even(152);
            y.loop(1, 20, loop);
            y.play(1);
            at("below the length", y, 150, 1);
            ModulePlayer z = even(148);
            z.loop(1, 20, loop);
            z.wave(1, 147, 66);
            z.play(1);
            Due.is("beyond the length", z.channel(0, 4), 0);
            // A FRAME takes 0.625 bytes: 236 of them 147.5, 237 of them 148.125.
            Due.is("its last byte is heard", z.frame(236, 0), 66);
            Due.is("nothing behind it", z.frame(237, 0), 0);
            Due.is("its place stays", z.channel(0, 3), 148);
            Due.is("its place stays", z.channel(0, 9), 65536 / 8);
            z.play(3);
            Due.is("later too", z.channel(0, 3), 148);
            Due.is("still silent", z.channel(0, 4), 0);
            for (int i = 0; i < 240; i++) {
                Due.is("nothing of an earlier tick in frame " + i, z.frame(i, 0), 0);
            }
        }
        // At PERIOD 113 the last FRAME of a TICK goes from 623.85 to 627.77.
        for (int length : new int[] {624, 626, 628}) {
            ModulePlayer x = new ModulePlayer(8000);
            x.sample(1, length, 0, 0);
            x.cell(0, 0, 0, Cells.note(113, 1));
            x.play(1);
            Due.is("its place", x.channel(0, 3), 627);
            Due.is("beyond " + length + " with the last frame", x.channel(0, 4), length == 628 ? 1 : 0);
        }
    }

    private static void sides() {
        int[][] leftAndRight = {{1, 0}, {0, 20}, {0, 300}, {508, 0}};
        for (int c = 0; c < 4; c++) {
            ModulePlayer x = four(8000);
            for (int other = 0; other < 4; other++) {
                x.mute(other, other != c);
            }
            x.play(1);
            Due.is("left of channel " + c, x.frame(0, 0), leftAndRight[c][0]);
            Due.is("right of channel " + c, x.frame(159, 1), leftAndRight[c][1]);
        }
        ModulePlayer all = four(8000);
        all.play(1);
        Due.is("left of all", all.frame(0, 0), 509);
        Due.is("right of all", all.frame(0, 1), 320);
        // The greatest there can be.
        ModulePlayer loud = new ModulePlayer(8000);
        loud.sample(1, 4, 0, 64);
        for (int i = 0; i < 4; i++) {
            loud.wave(1, i, -128);
        }
        loud.loop(1, 0, 4);
        for (int c = 0; c < 4; c++) {
            loud.cell(0, 0, c, Cells.note(428, 1));
        }
        loud.play(1);
        Due.is("left of the loudest", loud.frame(7, 0), -2 * 128 * 64);
        Due.is("right of the loudest", loud.frame(7, 1), -2 * 128 * 64);
    }

    private static void mutes() {
        for (int c = 0; c < 4; c++) {
            ModulePlayer x = four(8000);
            ModulePlayer heard = four(8000);
            x.mute(c, true);
            x.play(8);
            heard.play(8);
            for (int what = 0; what < 14; what++) {
                Due.is("it goes on: channel(" + c + ", " + what + ")", x.channel(c, what), heard.channel(c, what));
            }
            int side = c == 0 || c == 3 ? 0 : 1;
            int[] alone = {508, 300, 20, 1};
            Due.is("it adds nothing", x.frame(0, side), alone[c]);
            Due.is("the other side", x.frame(0, 1 - side), side == 0 ? 320 : 509);
            x.start();
            x.play(1);
            Due.is("behind start()", x.frame(0, side), alone[c]);
            x.save();
            x.load();
            x.play(1);
            Due.is("behind load()", x.frame(0, side), alone[c]);
            Due.yes("it is mute", x.mute(c, false));
            x.play(1);
            Due.is("heard again", x.frame(0, side), side == 0 ? 509 : 320);
        }
        // A mute CHANNEL that comes to its end is silent, too.
        ModulePlayer over = even(150);
        over.mute(0, true);
        over.play(1);
        at("mute up to its end", over, 150, 0);
    }

    private static void sums() {
        BigInteger due = BigInteger.valueOf(17);
        ModulePlayer x = four(2000);
        Due.is("at the begin", x.now(7), 17);
        // From the seventh FRAME on 32 bits are too few.
        for (int tick = 0; tick < 3; tick++) {
            x.play(1);
            for (int i = 0; i < 40; i++) {
                due = due.multiply(BigInteger.valueOf(31)).add(BigInteger.valueOf(x.frame(i, 0)));
                due = due.multiply(BigInteger.valueOf(31)).add(BigInteger.valueOf(x.frame(i, 1)));
            }
            Due.is("behind tick " + tick, x.now(7), due.intValue());
        }
        Due.yes("it wraps", due.bitLength() > 32);
        x.play(401);
        Due.is("a refused play adds nothing", x.now(7), due.intValue());
        x.start();
        Due.is("behind start()", x.now(7), 17);
        x.play(1);
        x.save();
        x.load();
        Due.is("behind load()", x.now(7), 17);
    }

    private static void whatItWas() {
        ModulePlayer x = new ModulePlayer(8000);
        for (int c = 0; c < 4; c++) {
            Due.no("a new one is not", x.mute(c, false));
            Due.no("it was not", x.mute(c, true));
            Due.yes("it was", x.mute(c, true));
            Due.yes("it was", x.mute(c, false));
            Due.no("it was not", x.mute(c, false));
        }
        x.mute(1, true);
        Due.no("another one", x.mute(0, false));
        Due.no("another one", x.mute(2, false));
        Due.yes("this one", x.mute(1, true));
    }

    private static void muteRefuses() {
        for (int c : new int[] {-1, 4, 5, MAX, MIN}) {
            Refused.no("mute(" + c + ", true)", x -> x.mute(c, true));
            Refused.no("mute(" + c + ", false)", x -> x.mute(c, false));
            ModulePlayer x = new ModulePlayer(8000);
            x.mute(c, true);
            Due.no("mute(" + c + ", true) twice", x.mute(c, true));
        }
    }

    private static void framesOfTheLatest() {
        ModulePlayer x = four(8000);
        Due.is("ahead of any", x.frame(0, 0), 0);
        Due.is("ahead of any", x.frame(0, 1), 0);
        x.cell(0, 1, 0, Cells.effect(15, 250));
        x.play(1);
        int[][] wrong = {
            {-1, 0}, {-1, 1}, {160, 0}, {160, 1}, {0, -1}, {0, 2}, {159, 2}, {MAX, 0}, {MIN, 0}, {MAX, 1}, {MIN, 1},
            {0, MAX}, {0, MIN},
        };
        for (int[] w : wrong) {
            Due.is("frame(" + w[0] + ", " + w[1] + ")", x.frame(w[0], w[1]), 0);
        }
        int[] ends = {0, 159};
        for (int i : ends) {
            Due.is("left " + i, x.frame(i, 0), 509);
            Due.is("right " + i, x.frame(i, 1), 320);
        }
        x.play(6);
        Due.is("the last of a shorter tick", x.frame(79, 0), 509);
        Due.is("the last of a shorter tick", x.frame(79, 1), 320);
        Due.is("none behind it", x.frame(80, 0), 0);
        Due.is("none behind it", x.frame(80, 1), 0);
        x.start();
        Due.is("behind start()", x.frame(0, 0), 0);
    }
}
