/** Terms 3 and promise 20: notes and what CELLS do on TICK 0, sentence by sentence, at their edges. */
public final class EdgesOfNotesTest {
    private static final int SAMPLE = 0;
    private static final int VOLUME = 1;
    private static final int PERIOD = 2;
    private static final int PLACE = 3;
    private static final int SOUNDS = 4;
    private static final int HEARD_PERIOD = 5;
    private static final int HEARD_VOLUME = 6;
    private static final int TUNE = 7;
    private static final int TARGET = 8;
    private static final int VIBPLACE = 10;
    private static final int TREMPLACE = 11;
    private static final int LOOPROW = 12;
    private static final int LOOPLEFT = 13;

    public static void main(String[] args) {
        notes();
        effects();
        effectsOf14();
        calls();
        Due.end();
    }

    private static void notes() {
        Sentence.holds("TUNED is a PERIOD p less (p times TUNE, by 138, cut towards 0), at least 113, at most 856.",
                EdgesOfNotesTest::tuned);
        Sentence.holds("(with EFFECT 14 and x 13, y above 0: on TICK y instead, if there is one)",
                EdgesOfNotesTest::lateNotes);
        Sentence.holds("first: a SAMPLE above 0 is the CHANNEL's, VOLUME and TUNE are that one's.",
                EdgesOfNotesTest::samples);
        Sentence.holds("Then a PERIOD above 0: with EFFECT 3 or 5: TARGET is TUNED PERIOD",
                EdgesOfNotesTest::targets);
        Sentence.holds("else PERIOD and NOTE PERIOD are TUNED PERIOD, PLACE is 0", EdgesOfNotesTest::periods);
        Sentence.holds("it SOUNDS (if it has a SAMPLE with a LENGTH; else it is silent)", EdgesOfNotesTest::sounds);
        Sentence.holds("VIBPLACE and TREMPLACE are 0.", EdgesOfNotesTest::placesOfWaves);
        Sentence.holds("A CHANNEL keeps: a SAMPLE, VOLUME, TUNE, PERIOD, PLACE (65536 to a byte) and whether it SOUNDS;"
                + " NOTE PERIOD (for arpeggios); TARGET and PORTA; VIB, VIBPLACE, VIBFORM; TREM, TREMPLACE, TREMFORM;"
                + " OFFSET; LOOPROW, LOOPLEFT.", EdgesOfNotesTest::eachKeepsItsOwn);
    }

    private static void effects() {
        Sentence.holds("3: PORTA is NUMBER, if that isn't 0.", EdgesOfNotesTest::porta);
        Sentence.holds("4: x and y each replace that of VIB, if not 0.", EdgesOfNotesTest::vib);
        Sentence.holds("7: likewise TREM.", EdgesOfNotesTest::trem);
        Sentence.holds("9: OFFSET is NUMBER, if not 0", EdgesOfNotesTest::offsetIsKept);
        Sentence.holds("if the CELL has a PERIOD: PLACE is OFFSET times 256 bytes (not below the LENGTH: it is silent).",
                EdgesOfNotesTest::offsets);
        Sentence.holds("11: a JUMP to place NUMBER.", EdgesOfNotesTest::jumps);
        Sentence.holds("12: VOLUME is NUMBER, at most 64.", EdgesOfNotesTest::volumes);
        Sentence.holds("13: a BREAK to ROW 10 x + y (above 63: 0).", EdgesOfNotesTest::breaks);
        Sentence.holds("15: 0: nothing; below 32: SPEED; else TEMPO.", EdgesOfNotesTest::paces);
    }

    private static void effectsOf14() {
        Sentence.holds("14 by x: 1, 2: PERIOD y less, more.", EdgesOfNotesTest::finePeriods);
        Sentence.holds("4, 7: VIBFORM, TREMFORM are y modulo 4.", EdgesOfNotesTest::forms);
        Sentence.holds("5: TUNE is y (8 .. 15: less 16).", EdgesOfNotesTest::tunes);
        Sentence.holds("6: y 0: LOOPROW is this ROW", EdgesOfNotesTest::loopRow);
        Sentence.holds("else if LOOPLEFT is 0 it becomes y, else it is one less", EdgesOfNotesTest::loopLeft);
        Sentence.holds("if it isn't 0 then: a LOOP to LOOPROW of this place.", EdgesOfNotesTest::loopOfThisPlace);
        Sentence.holds("10, 11: VOLUME y more, less.", EdgesOfNotesTest::fineVolumes);
        Sentence.holds("14: the ROW's DELAY is y.", EdgesOfNotesTest::delay);
        Sentence.holds("EFFECTS on TICK 0 (behind that; CHANNEL by CHANNEL)", EdgesOfNotesTest::noOtherEffects);
    }

    private static void calls() {
        Sentence.holds("Of a CHANNEL, behind the latest TICK: 0 SAMPLE, 1 VOLUME, 2 PERIOD, 3 PLACE by 65536 (cut),"
                + " 4 whether it SOUNDS, 5 the PERIOD that sounded, 6 the VOLUME that sounded, 7 TUNE, 8 TARGET,"
                + " 9 PLACE modulo 65536, 10 VIBPLACE, 11 TREMPLACE, 12 LOOPROW, 13 LOOPLEFT.",
                EdgesOfNotesTest::ofAChannel);
        Sentence.holds("13 LOOPLEFT. NONE for others, or no such CHANNEL.", EdgesOfNotesTest::channelRefuses);
        Sentence.holds("(5 and 6 ahead of any TICK: 0.)", EdgesOfNotesTest::aheadOfAny);
    }

    /** Samples 1 (volume 40, tune 0), 2 (volume 20, tune 3), 3 (no length, volume 64, tune -2); frames of a TICK: 160. */
    private static ModulePlayer player() {
        ModulePlayer x = new ModulePlayer(8000);
        x.sample(1, 2000, 0, 40);
        x.sample(2, 1000, 3, 20);
        x.sample(3, 0, -2, 64);
        return x;
    }

    /** The CELLS of CHANNEL 0, from ROW 0 on. */
    private static ModulePlayer with(int... cells) {
        ModulePlayer x = player();
        for (int row = 0; row < cells.length; row++) {
            x.cell(0, row, 0, cells[row]);
        }
        return x;
    }

    private static void is(String name, ModulePlayer x, int what, int want) {
        Due.is(name, x.channel(0, what), want);
    }

    /** What CHANNEL 0 has behind each of the next TICKS. */
    private static void each(String name, ModulePlayer x, int what, int... want) {
        for (int i = 0; i < want.length; i++) {
            x.play(1);
            is(name + " behind tick " + i, x, what, want[i]);
        }
    }

    private static void tuned() {
        int[][] periodTuneWant = {
            {113, 0, 113}, {112, 0, 113}, {1, 0, 113}, {114, 0, 114}, {856, 0, 856}, {857, 0, 856}, {855, 0, 855},
            {4095, 0, 856}, {137, 1, 137}, {138, 1, 137}, {275, 1, 274}, {276, 1, 274}, {137, -1, 137}, {138, -1, 139},
            {275, -1, 276}, {276, -1, 278}, {428, 7, 407}, {428, -8, 452}, {119, 7, 113}, {120, 7, 114}, {118, 7, 113},
            {809, -8, 855}, {810, -8, 856}, {811, -8, 856}, {902, 7, 856}, {901, 7, 856}, {900, 7, 855},
            {4095, 7, 856}, {4095, -8, 856}, {1, 7, 113}, {1, -8, 113},
        };
        for (int[] w : periodTuneWant) {
            for (int effect : new int[] {0, 3}) {
                ModulePlayer x = new ModulePlayer(8000);
                x.sample(1, 2, w[1], 64);
                x.cell(0, 0, 0, Cells.of(w[0], 1, effect, 0));
                x.play(1);
                is("period " + w[0] + " tune " + w[1], x, effect == 0 ? PERIOD : TARGET, w[2]);
            }
        }
    }

    private static void lateNotes() {
        for (int y = 0; y < 16; y++) {
            ModulePlayer x = with(Cells.note(300, 2), Cells.of(428, 1, 14, 0xD0 + y));
            x.play(6);
            for (int tick = 0; tick < 12; tick++) {
                x.play(1);
                // SPEED is 6: from y 6 on there is no such TICK, and the next ROW has no note.
                boolean came = y < 6 && tick >= y;
                is("sample, y " + y + ", tick " + tick, x, SAMPLE, came ? 1 : 2);
                is("volume, y " + y + ", tick " + tick, x, VOLUME, came ? 40 : 20);
                is("tune, y " + y + ", tick " + tick, x, TUNE, came ? 0 : 3);
                is("period, y " + y + ", tick " + tick, x, PERIOD, came ? 428 : 294);
            }
        }
        for (int y = 6; y < 14; y++) {
            ModulePlayer x = with(Cells.of(428, 1, 14, 0xD0 + y));
            x.cell(0, 0, 1, Cells.effect(14, 0xE1));
            x.play(y);
            is("ahead of the delayed tick " + y, x, PERIOD, 0);
            x.play(1);
            is("on the delayed tick " + y, x, PERIOD, y < 12 ? 428 : 0);
        }
        ModulePlayer waves = with(Cells.of(428, 1, 4, 0x88), Cells.of(300, 0, 14, 0xD2));
        waves.play(8);
        is("ahead of the late note", waves, VIBPLACE, 40);
        waves.play(1);
        is("with the late note", waves, VIBPLACE, 0);
        is("from its begin", waves, PLACE, 160 * 96854 >> 16);
        ModulePlayer other = with(Cells.of(428, 1, 14, 0xC2), Cells.of(300, 0, 13, 0xD2));
        other.play(1);
        is("x 12 is on tick 0", other, PERIOD, 428);
        other.play(6);
        is("effect 13 is on tick 0", other, PERIOD, 300);
    }

    private static void samples() {
        ModulePlayer x = with(Cells.of(428, 1, 12, 7), Cells.note(300, 0), Cells.note(0, 2), 0, Cells.note(0, 3),
                Cells.note(0, 31), Cells.of(0, 2, 12, 5), Cells.of(0, 2, 14, 0x55));
        x.play(7);
        is("without one it stays", x, SAMPLE, 1);
        is("its volume stays", x, VOLUME, 7);
        int place = x.channel(0, PLACE);
        x.play(6);
        is("sample 2", x, SAMPLE, 2);
        is("its volume", x, VOLUME, 20);
        is("its tune", x, TUNE, 3);
        is("the period stays", x, PERIOD, 300);
        Due.yes("the place goes on", x.channel(0, PLACE) > place);
        x.play(6);
        is("it stays", x, SAMPLE, 2);
        x.play(6);
        is("sample 3, of no length", x, SAMPLE, 3);
        is("its volume", x, VOLUME, 64);
        is("its tune", x, TUNE, -2);
        x.play(6);
        is("sample 31, of which none was told", x, SAMPLE, 31);
        is("its volume", x, VOLUME, 0);
        is("its tune", x, TUNE, 0);
        x.play(6);
        is("the effect comes behind the sample", x, VOLUME, 5);
        x.play(6);
        is("the effect comes behind the sample", x, TUNE, 5);
        ModulePlayer y = with(Cells.note(428, 1), Cells.note(428, 2));
        y.play(1);
        is("tuned by tune 0", y, PERIOD, 428);
        y.play(6);
        is("the sample's tune comes first", y, PERIOD, 419);
    }

    private static void targets() {
        for (int effect = 0; effect < 16; effect++) {
            // NUMBER 0: none of them changes a PERIOD on TICK 0.
            ModulePlayer x = with(Cells.note(300, 1), Cells.of(400, 0, effect, 0));
            x.play(7);
            boolean target = effect == 3 || effect == 5;
            is("period, effect " + effect, x, PERIOD, target ? 300 : 400);
            is("target, effect " + effect, x, TARGET, target ? 400 : 0);
        }
        for (int effect : new int[] {3, 5}) {
            ModulePlayer x = with(Cells.note(300, 2), Cells.of(1, 0, effect, 0), Cells.of(0, 1, effect, 0));
            x.play(7);
            is("the least", x, TARGET, 113);
            x.play(6);
            is("without a period it stays", x, TARGET, 113);
            is("the sample comes also so", x, SAMPLE, 1);
            ModulePlayer first = with(Cells.of(300, 1, effect, 0x11));
            first.play(6);
            is("no period", first, PERIOD, 0);
            is("silent", first, SOUNDS, 0);
        }
    }

    private static void periods() {
        // A TICK of PERIOD 856 takes 82.87 bytes, one of 428 takes 165.7.
        ModulePlayer x = with(Cells.note(856, 1), 0, Cells.note(428, 0), Cells.of(0, 0, 2, 1), Cells.effect(0, 0x01));
        x.play(7);
        is("without a period it goes on", x, PLACE, 580);
        is("without a period it stays", x, PERIOD, 856);
        x.play(6);
        is("from its begin", x, PLACE, 165);
        is("period", x, PERIOD, 428);
        x.play(13);
        // The slide changed PERIOD to 433, but not NOTE PERIOD: x is 0 times less of it.
        is("note period", x, HEARD_PERIOD, 428);
        is("period", x, PERIOD, 433);
        ModulePlayer least = with(Cells.note(1, 1));
        least.play(1);
        is("period 1 is one", least, PERIOD, 113);
    }

    private static void sounds() {
        ModulePlayer x = with(Cells.note(856, 1), Cells.note(856, 3), Cells.note(856, 2), Cells.note(0, 3),
                Cells.note(856, 0), Cells.note(856, 1));
        int[] want = {1, 0, 1, 0, 0, 1};
        for (int row = 0; row < want.length; row++) {
            x.play(6);
            is("row " + row, x, SOUNDS, want[row]);
        }
        ModulePlayer none = with(Cells.note(856, 0));
        none.play(1);
        is("without a sample", none, SOUNDS, 0);
        is("its period", none, PERIOD, 856);
        ModulePlayer least = new ModulePlayer(8000);
        least.sample(1, 2, 0, 1);
        least.wave(1, 0, 9);
        least.cell(0, 0, 0, Cells.note(856, 1));
        least.play(1);
        Due.is("a length of 2 sounds", least.frame(0, 0), 9);
        ModulePlayer over = with(Cells.note(113, 2), Cells.note(428, 0));
        over.play(6);
        is("at its end it is silent", over, SOUNDS, 0);
        over.play(1);
        is("a period alone makes it sound", over, SOUNDS, 1);
    }

    private static void placesOfWaves() {
        ModulePlayer x = with(Cells.of(428, 1, 4, 0x88), Cells.of(0, 1, 7, 0x99), Cells.of(300, 0, 3, 0), Cells.note(300, 0));
        x.play(12);
        is("vibplace", x, VIBPLACE, 40);
        is("tremplace", x, TREMPLACE, 45);
        x.play(6);
        is("vibplace stays with effect 3", x, VIBPLACE, 40);
        is("tremplace stays with effect 3", x, TREMPLACE, 45);
        x.play(1);
        is("vibplace with a note", x, VIBPLACE, 0);
        is("tremplace with a note", x, TREMPLACE, 0);
        for (int form = 0; form < 4; form++) {
            ModulePlayer y = with(Cells.of(428, 1, 14, 0x40 + form), Cells.effect(14, 0x70 + form), Cells.effect(4, 0x88),
                    Cells.effect(7, 0x99), Cells.note(428, 0));
            y.play(24);
            is("vibplace of form " + form, y, VIBPLACE, 40);
            is("tremplace of form " + form, y, TREMPLACE, 45);
            y.play(1);
            is("vibplace of form " + form + " with a note", y, VIBPLACE, 0);
            is("tremplace of form " + form + " with a note", y, TREMPLACE, 0);
        }
    }

    private static void eachKeepsItsOwn() {
        // One CHANNEL is told all of it; the others play later with what they were not told.
        for (int c = 0; c < 4; c++) {
            int other = (c + 1) % 4;
            ModulePlayer x = player();
            int[] cells = {Cells.of(300, 2, 9, 2), Cells.of(400, 0, 3, 9), Cells.effect(4, 0x8F), Cells.effect(7, 0x84),
                Cells.effect(14, 0x42), Cells.effect(14, 0x72), Cells.effect(14, 0x60)};
            for (int row = 0; row < cells.length; row++) {
                x.cell(0, row, c, cells[row]);
            }
            x.play(42);
            for (int what = 0; what < 14; what++) {
                Due.is("channel(" + other + ", " + what + ")", x.channel(other, what), 0);
            }
            x.cell(0, 7, other, Cells.of(856, 1, 9, 0));
            x.cell(0, 8, other, Cells.of(800, 0, 3, 0));
            x.cell(0, 9, other, Cells.effect(4, 0));
            x.cell(0, 10, other, Cells.effect(7, 0));
            x.cell(0, 11, other, Cells.effect(4, 0x88));
            x.cell(0, 12, other, Cells.effect(7, 0x84));
            x.play(1);
            Due.is("offset", x.channel(other, PLACE), 82);
            x.play(11);
            Due.is("porta", x.channel(other, PERIOD), 856);
            x.play(6);
            Due.is("vib", x.channel(other, VIBPLACE), 0);
            x.play(6);
            Due.is("trem", x.channel(other, TREMPLACE), 0);
            x.play(3);
            Due.is("vibform", x.channel(other, HEARD_PERIOD), 856 + 11);
            x.play(6);
            Due.is("tremform", x.channel(other, HEARD_VOLUME), 51);
            Due.is("looprow", x.channel(other, LOOPROW), 0);
            Due.is("looprow of the first", x.channel(c, LOOPROW), 6);
            Due.is("target of the first", x.channel(c, TARGET), 392);
        }
    }

    private static void porta() {
        ModulePlayer x = with(Cells.note(300, 1), Cells.of(800, 0, 3, 0), Cells.effect(3, 1), Cells.effect(3, 0),
                Cells.effect(3, 255), Cells.of(113, 0, 3, 0));
        x.play(6);
        each("porta 0", x, PERIOD, 300, 300, 300, 300, 300, 300);
        each("porta 1", x, PERIOD, 300, 301, 302, 303, 304, 305);
        each("porta 1 is kept", x, PERIOD, 305, 306, 307, 308, 309, 310);
        each("porta 255", x, PERIOD, 310, 565, 800, 800, 800, 800);
        each("porta 255 is kept", x, PERIOD, 800, 545, 290, 113, 113, 113);
        ModulePlayer y = with(Cells.note(300, 1), Cells.of(800, 0, 3, 7), Cells.effect(5, 0x20));
        y.play(12);
        each("5 has its number for the volume alone", y, PERIOD, 335, 342, 349);
    }

    private static void vib() {
        // Form 2: the WAVE is 255 up to place 31; y times it by 128.
        ModulePlayer x = with(Cells.of(428, 1, 14, 0x42), Cells.effect(4, 0x1F), Cells.effect(4, 0x20),
                Cells.effect(4, 0x01), Cells.effect(4, 0), Cells.effect(6, 0x10));
        x.play(8);
        is("y 15", x, HEARD_PERIOD, 457);
        is("x 1", x, VIBPLACE, 1);
        x.play(4);
        is("x 1", x, VIBPLACE, 5);
        x.play(2);
        is("y 15 stays", x, HEARD_PERIOD, 457);
        is("x 2", x, VIBPLACE, 7);
        x.play(4);
        x.play(2);
        is("y 1", x, HEARD_PERIOD, 429);
        is("x 2 stays", x, VIBPLACE, 17);
        x.play(4);
        x.play(2);
        is("y 1 stays", x, HEARD_PERIOD, 429);
        is("x 2 stays", x, VIBPLACE, 27);
        x.play(5);
        is("vibplace", x, VIBPLACE, 35);
        x.play(1);
        is("6 does not change it", x, VIBPLACE, 37);
    }

    private static void trem() {
        ModulePlayer x = with(Cells.of(428, 1, 14, 0x72), Cells.effect(7, 0x15), Cells.effect(7, 0x20),
                Cells.effect(7, 0x01), Cells.effect(7, 0));
        x.play(8);
        is("y 5", x, HEARD_VOLUME, 59);
        is("x 1", x, TREMPLACE, 1);
        x.play(6);
        is("y 5 stays", x, HEARD_VOLUME, 59);
        is("x 2", x, TREMPLACE, 7);
        x.play(6);
        is("y 1", x, HEARD_VOLUME, 43);
        is("x 2 stays", x, TREMPLACE, 17);
        x.play(6);
        is("y 1 stays", x, HEARD_VOLUME, 43);
        is("x 2 stays", x, TREMPLACE, 27);
        is("vib is another", x, VIBPLACE, 0);
    }

    private static void offsetIsKept() {
        ModulePlayer x = with(Cells.of(856, 1, 9, 0), Cells.effect(9, 3), Cells.of(856, 0, 9, 0), Cells.of(856, 0, 9, 1),
                Cells.of(856, 0, 9, 0));
        x.play(1);
        is("0 at first", x, PLACE, 82);
        x.play(6);
        is("without a period it goes on", x, PLACE, 580);
        x.play(6);
        is("but is kept", x, PLACE, 768 + 82);
        x.play(6);
        is("another", x, PLACE, 256 + 82);
        x.play(6);
        is("is kept", x, PLACE, 256 + 82);
    }

    private static void offsets() {
        int[][] lengthOffsetSounds = {
            {512, 1, 1}, {512, 2, 0}, {514, 2, 1}, {510, 2, 0}, {2000, 7, 1}, {2000, 8, 0}, {2000, 255, 0}, {256, 1, 0},
            {258, 1, 1}, {0, 1, 0}, {0, 255, 0},
        };
        for (int[] w : lengthOffsetSounds) {
            ModulePlayer x = new ModulePlayer(8000);
            x.sample(1, w[0], 0, 1);
            x.wave(1, w[1] * 256, 77);
            x.cell(0, 0, 0, Cells.of(856, 1, 9, w[1]));
            x.play(1);
            Due.is("offset " + w[1] + " of " + w[0], x.frame(0, 0), w[2] * 77);
            if (w[2] == 0) {
                is("its place", x, PLACE, w[1] * 256);
                is("its place", x, 9, 0);
                is("silent", x, SOUNDS, 0);
            }
        }
        ModulePlayer none = with(Cells.note(856, 1), Cells.of(0, 1, 9, 7), Cells.of(0, 0, 9, 8));
        none.play(13);
        is("no period: it goes on", none, PLACE, 1077);
        is("no period: it sounds", none, SOUNDS, 1);
    }

    private static void jumps() {
        for (int number : new int[] {0, 1, 16, 127}) {
            ModulePlayer x = with(Cells.effect(15, 1), Cells.effect(11, number));
            x.song(128, 0);
            x.play(3);
            Due.is("place " + number, x.now(0), number);
            Due.is("row", x.now(1), 0);
        }
    }

    private static void volumes() {
        for (int number = 0; number < 256; number++) {
            ModulePlayer x = with(Cells.of(428, 1, 12, number));
            x.play(1);
            is("number " + number, x, VOLUME, Math.min(number, 64));
            is("number " + number + " is heard at once", x, HEARD_VOLUME, Math.min(number, 64));
        }
    }

    private static void breaks() {
        for (int number = 0; number < 256; number++) {
            ModulePlayer x = with(Cells.effect(15, 1), Cells.effect(13, number));
            x.song(2, 0);
            x.play(3);
            int row = 10 * (number / 16) + number % 16;
            Due.is("the place of break " + number, x.now(0), 1);
            Due.is("the row of break " + number, x.now(1), row > 63 ? 0 : row);
        }
    }

    private static void paces() {
        for (int number = 0; number < 256; number++) {
            ModulePlayer x = with(Cells.effect(15, number));
            x.play(1);
            Due.is("speed by " + number, x.now(4), number == 0 || number > 31 ? 6 : number);
            Due.is("tempo by " + number, x.now(5), number > 31 ? number : 125);
            Due.is("frames by " + number, x.now(3), number > 31 ? 40000 / (2 * number) : 160);
        }
    }

    private static void finePeriods() {
        int[][] periodNumberWant = {
            {300, 0x10, 300}, {300, 0x11, 299}, {300, 0x1F, 285}, {128, 0x1F, 113}, {127, 0x1F, 113}, {114, 0x12, 113},
            {113, 0x11, 113}, {300, 0x20, 300}, {300, 0x21, 301}, {300, 0x2F, 315}, {841, 0x2F, 856}, {842, 0x2F, 856},
            {856, 0x21, 856},
        };
        for (int[] w : periodNumberWant) {
            ModulePlayer x = with(Cells.note(w[0], 1), Cells.effect(14, w[1]));
            x.play(6);
            each(w[0] + " by " + w[1] + " on tick 0 alone", x, PERIOD, w[2], w[2], w[2], w[2], w[2], w[2]);
            is("it is heard", x, HEARD_PERIOD, w[2]);
            ModulePlayer note = with(Cells.of(w[0], 1, 14, w[1]));
            note.play(1);
            is("behind the note", note, PERIOD, w[2]);
            is("it is heard at once", note, HEARD_PERIOD, w[2]);
        }
    }

    private static void forms() {
        // At place 8 the WAVE is 191, 64 or 255; eight times it by 128 is 11, 4, 15; by 64, for 4 times: 11, 4, 15.
        int[] swings = {11, 4, 15, 11};
        for (int y = 0; y < 16; y++) {
            ModulePlayer x = with(Cells.of(428, 1, 14, 0x40 + y), Cells.effect(4, 0x88));
            x.play(9);
            is("vibform by " + y, x, HEARD_PERIOD, 428 + swings[y % 4]);
            ModulePlayer z = with(Cells.of(428, 1, 14, 0x70 + y), Cells.effect(7, 0x84));
            z.play(9);
            is("tremform by " + y, z, HEARD_VOLUME, 40 + swings[y % 4]);
            ModulePlayer other = with(Cells.of(428, 1, 14, 0x40 + y), Cells.effect(7, 0x84));
            other.play(9);
            is("vibform is not tremform", other, HEARD_VOLUME, 51);
        }
    }

    private static void tunes() {
        for (int y = 0; y < 16; y++) {
            int tune = y < 8 ? y : y - 16;
            ModulePlayer x = with(Cells.of(400, 2, 14, 0x50 + y), Cells.note(400, 0), Cells.note(400, 2));
            x.play(1);
            is("tune by " + y, x, TUNE, tune);
            is("this note has the sample's", x, PERIOD, 392);
            x.play(6);
            is("the next one has this", x, PERIOD, 400 - 400 * tune / 138);
            x.play(6);
            is("a sample brings its own", x, TUNE, 3);
            ModulePlayer target = with(Cells.of(400, 2, 14, 0x50 + y), Cells.of(400, 0, 3, 1));
            target.play(7);
            is("the next target has this", target, TARGET, 400 - 400 * tune / 138);
        }
    }

    private static void loopRow() {
        ModulePlayer x = player();
        x.cell(0, 0, 1, Cells.effect(15, 1));
        for (int row : new int[] {2, 40, 63}) {
            x.cell(0, row, 0, Cells.effect(14, 0x60));
        }
        for (int row = 0; row < 66; row++) {
            x.play(1);
            is("looprow in row " + row, x, LOOPROW, row < 2 ? 0 : row < 40 ? 2 : row < 63 ? 40 : 63);
            is("loopleft", x, LOOPLEFT, 0);
            Due.is("another channel's", x.channel(1, LOOPROW), 0);
        }
    }

    private static void loopLeft() {
        for (int y = 1; y < 16; y++) {
            ModulePlayer x = with(Cells.effect(15, 1), Cells.effect(14, 0x60), 0, Cells.effect(14, 0x60 + y));
            x.play(4);
            for (int left = y; left > 0; left--) {
                is("loopleft of " + y, x, LOOPLEFT, left);
                x.play(1);
                Due.is("row", x.now(1), 1);
                x.play(2);
            }
            is("loopleft of " + y, x, LOOPLEFT, 0);
            is("looprow stays", x, LOOPROW, 1);
            x.play(1);
            Due.is("row behind the loop", x.now(1), 4);
        }
        ModulePlayer delayed = with(Cells.effect(14, 0x61));
        delayed.cell(0, 0, 1, Cells.effect(14, 0xE1));
        delayed.play(12);
        is("on tick 0 alone", delayed, LOOPLEFT, 1);
    }

    private static void loopOfThisPlace() {
        // LOOPROW 0 without one told; the LOOP is in place 1, its LOOPROW was told in place 0.
        ModulePlayer x = with(Cells.effect(15, 1), 0, Cells.effect(14, 0x60), Cells.effect(13, 0x01));
        x.song(2, 0);
        x.place(1, 1);
        x.cell(1, 4, 0, Cells.effect(14, 0x61));
        x.play(8);
        Due.is("place", x.now(0), 1);
        Due.is("row", x.now(1), 4);
        x.play(1);
        Due.is("the loop's place", x.now(0), 1);
        Due.is("the loop's row", x.now(1), 2);
        ModulePlayer y = with(Cells.effect(15, 1), 0, Cells.effect(14, 0x61));
        y.play(4);
        Due.is("row 0 without a looprow", y.now(1), 0);
        ModulePlayer same = with(Cells.effect(15, 1));
        same.cell(0, 63, 1, Cells.effect(14, 0x61));
        same.cell(0, 62, 1, Cells.effect(14, 0x60));
        same.play(65);
        Due.is("behind row 63", same.now(1), 62);
    }

    private static void fineVolumes() {
        int[][] volumeNumberWant = {
            {40, 0xA0, 40}, {40, 0xA1, 41}, {49, 0xAF, 64}, {50, 0xAF, 64}, {63, 0xA1, 64}, {64, 0xA1, 64},
            {40, 0xB0, 40}, {40, 0xB1, 39}, {15, 0xBF, 0}, {14, 0xBF, 0}, {1, 0xB1, 0}, {0, 0xB1, 0},
        };
        for (int[] w : volumeNumberWant) {
            ModulePlayer x = with(Cells.of(300, 1, 12, w[0]), Cells.effect(14, w[1]));
            x.play(6);
            each(w[0] + " by " + w[1] + " on tick 0 alone", x, HEARD_VOLUME, w[2], w[2], w[2], w[2], w[2], w[2]);
            is("it stays", x, VOLUME, w[2]);
        }
    }

    private static void delay() {
        for (int y = 0; y < 16; y++) {
            ModulePlayer x = with(Cells.effect(14, 0xE0 + y));
            x.play(6 * (1 + y));
            Due.is("the row of delay " + y, x.now(1), 0);
            Due.is("its last tick", x.now(2), 6 * (1 + y) - 1);
            x.play(1);
            Due.is("the next row", x.now(1), 1);
            // By CHANNELS: it is what the last one tells.
            ModulePlayer two = with(Cells.effect(14, 0xE3));
            two.cell(0, 0, 2, Cells.effect(14, 0xE0 + y));
            two.play(6 * (1 + y));
            Due.is("the row of delay 3, then " + y, two.now(1), 0);
            two.play(1);
            Due.is("the next row of delay 3, then " + y, two.now(1), 1);
        }
    }

    /** EFFECT 8, and 14 with x 0, 3, 8, 15, are told to do nothing, on TICK 0 and later. */
    private static void noOtherEffects() {
        int[] cells = {Cells.effect(8, 0xFF), Cells.effect(8, 0x21), Cells.effect(14, 0x0F), Cells.effect(14, 0x3F),
            Cells.effect(14, 0x8F), Cells.effect(14, 0xFF), Cells.effect(14, 0xF2), Cells.effect(0, 0)};
        for (int cell : cells) {
            ModulePlayer x = with(Cells.note(428, 1), cell);
            ModulePlayer bare = with(Cells.note(428, 1), 0);
            for (int tick = 0; tick < 18; tick++) {
                x.play(1);
                bare.play(1);
                for (int what = 0; what < 14; what++) {
                    is("channel(0, " + what + ") with " + cell, x, what, bare.channel(0, what));
                }
                Due.is("row", x.now(1), bare.now(1));
                Due.is("sum", x.now(7), bare.now(7));
            }
        }
        // By CHANNELS: the last SPEED and TEMPO that are told are those of the ROW.
        ModulePlayer order = player();
        order.cell(0, 0, 0, Cells.effect(15, 3));
        order.cell(0, 0, 1, Cells.effect(15, 40));
        order.cell(0, 0, 2, Cells.effect(15, 50));
        order.cell(0, 0, 3, Cells.effect(15, 5));
        order.play(1);
        Due.is("speed", order.now(4), 5);
        Due.is("tempo", order.now(5), 50);
    }

    private static void ofAChannel() {
        ModulePlayer x = new ModulePlayer(8000);
        // Only sample 2 comes to an end.
        x.sample(2, 1000, 3, 20);
        x.sample(4, 1000, 3, 20);
        x.loop(4, 0, 1000);
        for (int c = 0; c < 4; c++) {
            x.cell(0, 0, c, Cells.of(428 + 100 * c, c == 0 ? 2 : 4, 4, 0x80 + c));
            x.cell(0, 1, c, Cells.of(0, 0, 14, 0x60));
            x.cell(0, 2, c, Cells.of(300 + c, 0, 3, 1));
            x.cell(0, 3, c, Cells.effect(7, 0x9F));
            x.cell(0, 4, c, Cells.effect(14, 0x63));
            x.cell(0, 5, c, Cells.effect(9, 0));
        }
        x.play(25);
        for (int c = 0; c < 4; c++) {
            int period = 428 + 100 * c - (428 + 100 * c) * 3 / 138 - 5;
            int target = 300 + c - (300 + c) * 3 / 138;
            Due.is("0 sample of " + c, x.channel(c, 0), c == 0 ? 2 : 4);
            Due.is("1 volume of " + c, x.channel(c, 1), 20);
            Due.is("2 period of " + c, x.channel(c, 2), period);
            Due.is("4 sounds of " + c, x.channel(c, 4), c == 0 ? 0 : 1);
            Due.is("5 period heard of " + c, x.channel(c, 5), period);
            Due.is("6 volume heard of " + c, x.channel(c, 6), 20);
            Due.is("7 tune of " + c, x.channel(c, 7), 3);
            Due.is("8 target of " + c, x.channel(c, 8), target);
            Due.is("10 vibplace of " + c, x.channel(c, 10), 40);
            Due.is("11 tremplace of " + c, x.channel(c, 11), 45);
            Due.is("12 looprow of " + c, x.channel(c, 12), 1);
            Due.is("13 loopleft of " + c, x.channel(c, 13), 3);
        }
        ModulePlayer place = with(Cells.note(428, 1));
        place.play(1);
        is("3 place", place, 3, 160 * 67888 >> 16);
        is("9 place modulo 65536", place, 9, 160 * 67888 & 65535);
    }

    private static void channelRefuses() {
        int max = Integer.MAX_VALUE;
        int min = Integer.MIN_VALUE;
        for (int c : new int[] {-1, 4, 5, max, min}) {
            for (int what : new int[] {0, 13}) {
                Refused.none("channel(" + c + ", " + what + ")", x -> x.channel(c, what));
            }
        }
        for (int what : new int[] {-1, 14, 15, max, min}) {
            for (int c : new int[] {0, 3}) {
                Refused.none("channel(" + c + ", " + what + ")", x -> x.channel(c, what));
            }
        }
    }

    private static void aheadOfAny() {
        ModulePlayer x = with(Cells.note(428, 1));
        x.play(0);
        for (int c = 0; c < 4; c++) {
            Due.is("channel(" + c + ", 5)", x.channel(c, 5), 0);
            Due.is("channel(" + c + ", 6)", x.channel(c, 6), 0);
        }
        x.play(1);
        is("of the first", x, 5, 428);
        is("of the first", x, 6, 40);
        x.start();
        is("behind start()", x, 5, 0);
        is("behind start()", x, 6, 0);
    }
}
