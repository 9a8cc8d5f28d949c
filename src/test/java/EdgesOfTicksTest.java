/** Terms 3: what CELLS do on later TICKS, and what sounds then, sentence by sentence, at their edges. */
public final class EdgesOfTicksTest {
    private static final int VOLUME = 1;
    private static final int PERIOD = 2;
    private static final int PLACE = 3;
    private static final int SOUNDS = 4;
    private static final int HEARD_PERIOD = 5;
    private static final int HEARD_VOLUME = 6;
    private static final int TARGET = 8;
    private static final int VIBPLACE = 10;
    private static final int TREMPLACE = 11;

    public static void main(String[] args) {
        laterTicks();
        whatSounds();
        Due.end();
    }

    private static void laterTicks() {
        Sentence.holds("On each other TICK: 0 with a NUMBER: an arpeggio.", EdgesOfTicksTest::arpeggioWithANumber);
        Sentence.holds("an arpeggio. 1, 2: PERIOD NUMBER less, more.", EdgesOfTicksTest::slides);
        Sentence.holds("3, 5: PERIOD goes to TARGET by PORTA, not beyond (if TARGET isn't 0).",
                EdgesOfTicksTest::toTheTarget);
        Sentence.holds("4, 6: a vibrato. 7: a tremolo.", EdgesOfTicksTest::vibratoOrTremolo);
        Sentence.holds("5, 6, 10: VOLUME x more, if x isn't 0; else y less.", EdgesOfTicksTest::volumeSlides);
        Sentence.holds("14 by x: 9: y not being 0, on each TICK that y divides", EdgesOfTicksTest::strikesAgain);
        Sentence.holds("(on TICK 0, too, if the CELL has no PERIOD): PLACE is 0, it SOUNDS (as above).",
                EdgesOfTicksTest::strikesOnTick0);
        Sentence.holds("12: on TICK y VOLUME is 0 (also TICK 0).", EdgesOfTicksTest::cuts);
        Sentence.holds("PERIODS that are changed stay 113 .. 856, VOLUMES 0 .. 64.", EdgesOfTicksTest::staysWithin);
        Sentence.holds("(A PERIOD of 0 is not changed.)", EdgesOfTicksTest::periodOf0);
    }

    private static void whatSounds() {
        Sentence.holds("(if PERIOD isn't 0; else none of these is done, VIBPLACE and TREMPLACE stay)",
                EdgesOfTicksTest::noneOfTheseIsDone);
        Sentence.holds("arpeggio, on TICK t: t modulo 3 being 0 as it is; 1, 2: of NOTE PERIOD"
                + " (x, y times it becomes, each time, 17843 by 18904 of it, cut), at least 54.",
                EdgesOfTicksTest::arpeggios);
        Sentence.holds("Vibrato: PERIOD and the WAVE (at VIBPLACE, by VIBFORM) times y of VIB, by 128, cut towards 0",
                EdgesOfTicksTest::vibratos);
        Sentence.holds("then VIBPLACE is x of VIB more, modulo 64.", EdgesOfTicksTest::vibPlaces);
        Sentence.holds("Tremolo: VOLUME and the WAVE (TREMPLACE, TREMFORM) times y of TREM, by 64, cut towards 0, 0 .. 64",
                EdgesOfTicksTest::tremolos);
        Sentence.holds("then TREMPLACE likewise.", EdgesOfTicksTest::tremPlaces);
        Sentence.holds("0 and 3: with q = p modulo 32, 255 times q times (32 - q) by 256, cut;"
                + " 1: 8 times (p modulo 32); 2: 255; from p 32 on less than 0 as much.", EdgesOfTicksTest::waves);
    }

    /** Samples 1 (volume 40, 2000 bytes), 2 (2 bytes) and 3 (no bytes), with 160 frames a TICK. */
    private static ModulePlayer with(int... cells) {
        ModulePlayer x = new ModulePlayer(8000);
        x.sample(1, 2000, 0, 40);
        x.sample(2, 2, 0, 20);
        x.sample(3, 0, 0, 64);
        for (int row = 0; row < cells.length; row++) {
            x.cell(0, row, 0, cells[row]);
        }
        return x;
    }

    /** The ROW has as many TICKS as can be told. */
    private static ModulePlayer longRows(int... cells) {
        ModulePlayer x = with(cells);
        x.cell(0, 0, 1, Cells.effect(15, 31));
        for (int row = 1; row < cells.length; row++) {
            x.cell(0, row, 1, Cells.effect(14, 0xEF));
        }
        return x;
    }

    private static void is(String name, ModulePlayer x, int what, int want) {
        Due.is(name, x.channel(0, what), want);
    }

    private static void each(String name, ModulePlayer x, int what, int... want) {
        for (int i = 0; i < want.length; i++) {
            x.play(1);
            is(name + " behind tick " + i, x, what, want[i]);
        }
    }

    private static void arpeggioWithANumber() {
        ModulePlayer x = with(Cells.of(428, 1, 2, 20), Cells.effect(0, 0), Cells.effect(0, 0x01), Cells.effect(0, 0x10),
                Cells.effect(8, 0x11));
        x.play(6);
        // PERIOD is 528, NOTE PERIOD 428; 17843 by 18904 of this is 403.
        each("number 0", x, HEARD_PERIOD, 528, 528, 528, 528, 528, 528);
        each("number 1", x, HEARD_PERIOD, 528, 428, 403, 528, 428, 403);
        each("number 16", x, HEARD_PERIOD, 528, 403, 428, 528, 403, 428);
        each("another effect", x, HEARD_PERIOD, 528, 528, 528, 528, 528, 528);
        is("period stays", x, PERIOD, 528);
    }

    private static void slides() {
        int[][] periodEffectNumber = {
            {428, 1, 0}, {428, 1, 1}, {428, 1, 255}, {118, 1, 1}, {117, 1, 1}, {428, 1, 63}, {428, 1, 64},
            {428, 2, 0}, {428, 2, 1}, {428, 2, 255}, {851, 2, 1}, {852, 2, 1}, {426, 2, 86}, {427, 2, 86},
        };
        for (int[] w : periodEffectNumber) {
            ModulePlayer x = with(Cells.of(w[0], 1, w[1], w[2]), 0);
            int period = w[0];
            for (int tick = 0; tick < 6; tick++) {
                x.play(1);
                is(w[0] + " by " + w[1] + " " + w[2] + ", tick " + tick, x, PERIOD, period);
                is("it is heard", x, HEARD_PERIOD, period);
                period = w[1] == 1 ? Math.max(period - w[2], 113) : Math.min(period + w[2], 856);
            }
            int last = x.channel(0, PERIOD);
            x.play(6);
            is("the next row does not slide", x, PERIOD, last);
        }
    }

    private static void toTheTarget() {
        int[][] fromToPorta = {
            {300, 400, 20}, {300, 400, 19}, {300, 400, 255}, {300, 400, 1}, {300, 301, 1}, {300, 301, 2}, {300, 300, 5},
            {400, 300, 20}, {400, 300, 19}, {400, 300, 255}, {400, 300, 1}, {301, 300, 1}, {301, 300, 2},
            {113, 856, 255}, {856, 113, 255}, {113, 856, 148}, {113, 856, 149},
        };
        for (int[] w : fromToPorta) {
            ModulePlayer x = with(Cells.note(w[0], 1), Cells.of(w[1], 0, 3, w[2]), Cells.effect(5, 0));
            x.play(6);
            int period = w[0];
            for (int tick = 0; tick < 12; tick++) {
                x.play(1);
                if (tick % 6 != 0) {
                    period = w[0] < w[1] ? Math.min(period + w[2], w[1]) : Math.max(period - w[2], w[1]);
                }
                is(w[0] + " to " + w[1] + " by " + w[2] + ", tick " + tick, x, PERIOD, period);
                is("it is heard", x, HEARD_PERIOD, period);
            }
            is("target stays", x, TARGET, w[1]);
        }
        ModulePlayer none = with(Cells.note(300, 1), Cells.effect(3, 9), Cells.effect(5, 0x01));
        none.play(6);
        each("without a target", none, PERIOD, 300, 300, 300, 300, 300, 300, 300, 300, 300, 300, 300, 300);
    }

    private static void vibratoOrTremolo() {
        for (int effect = 0; effect < 16; effect++) {
            // VIB and TREM are told in the first ROWS; then which EFFECT moves which place.
            ModulePlayer x = with(Cells.of(428, 1, 4, 0x11), Cells.effect(7, 0x11), Cells.effect(effect, 0));
            x.play(12);
            is("vibplace", x, VIBPLACE, 5);
            is("tremplace", x, TREMPLACE, 5);
            each("vibplace by effect " + effect, x, VIBPLACE, 5, effect == 4 || effect == 6 ? 6 : 5);
            is("tremplace by effect " + effect, x, TREMPLACE, effect == 7 ? 6 : 5);
        }
    }

    private static void volumeSlides() {
        for (int effect : new int[] {5, 6, 10}) {
            int[][] volumeNumberWant = {
                {40, 0x00, 40, 40}, {40, 0x10, 41, 45}, {40, 0x01, 39, 35}, {40, 0x1F, 41, 45}, {40, 0xFF, 55, 64},
                {40, 0xF0, 55, 64}, {40, 0x0F, 25, 0}, {59, 0x10, 60, 64}, {60, 0x10, 61, 64}, {5, 0x01, 4, 0},
                {4, 0x01, 3, 0}, {64, 0x10, 64, 64}, {0, 0x01, 0, 0}, {49, 0x30, 52, 64},
            };
            for (int[] w : volumeNumberWant) {
                ModulePlayer x = with(Cells.of(428, 1, 12, w[0]), Cells.effect(effect, w[1]));
                x.play(7);
                is("effect " + effect + " " + w[1] + " on tick 0", x, VOLUME, w[0]);
                x.play(1);
                is("effect " + effect + " " + w[1] + " on tick 1", x, VOLUME, w[2]);
                is("it is heard", x, HEARD_VOLUME, w[2]);
                x.play(4);
                is("effect " + effect + " " + w[1] + " on tick 5", x, VOLUME, w[3]);
            }
        }
    }

    private static void strikesAgain() {
        // A TICK of PERIOD 856 takes 82.87 bytes.
        for (int y = 0; y < 16; y++) {
            ModulePlayer x = with(Cells.of(856, 1, 14, 0x90 + y));
            x.cell(0, 0, 1, Cells.effect(14, 0xE2));
            int since = 0;
            for (int tick = 0; tick < 18; tick++) {
                x.play(1);
                since = y != 0 && tick % y == 0 ? 1 : since + 1;
                is("y " + y + ", tick " + tick, x, PLACE, (int) (since * 160 * 33944L >> 16));
            }
        }
    }

    private static void strikesOnTick0() {
        ModulePlayer x = with(Cells.note(856, 1), Cells.effect(14, 0x9F), Cells.effect(14, 0x90), Cells.effect(14, 0x8F));
        x.play(7);
        is("y 15 on tick 0", x, PLACE, 82);
        x.play(6);
        is("y 0 on tick 0", x, PLACE, 580);
        x.play(6);
        is("x 8 on tick 0", x, PLACE, 1077);
        // Sample 2 is over at once; struck again it sounds for its two bytes, of which the first is 7.
        ModulePlayer over = with(Cells.note(856, 2), Cells.effect(14, 0x92));
        over.wave(2, 0, 7);
        over.play(6);
        is("it is over", over, SOUNDS, 0);
        int[] bytes = {7, 0, 7, 0, 7, 0};
        for (int tick = 0; tick < bytes.length; tick++) {
            over.play(1);
            Due.is("it sounds again, tick " + tick, over.frame(0, 0), bytes[tick] * 20);
        }
        ModulePlayer none = with(Cells.note(856, 1), Cells.of(0, 3, 14, 0x91), Cells.of(0, 1, 14, 0x91));
        none.play(6);
        each("a sample without a length", none, SOUNDS, 0, 0, 0, 0, 0, 0);
        is("its place", none, PLACE, 0);
        each("a sample with one", none, SOUNDS, 1, 1, 1, 1, 1, 1);
        ModulePlayer bare = with(Cells.effect(14, 0x91), Cells.of(0, 1, 14, 0x91));
        each("without a sample", bare, SOUNDS, 0, 0, 0, 0, 0, 0);
        each("without a period", bare, SOUNDS, 1, 1, 1, 1, 1, 1);
        is("it goes nowhere", bare, PLACE, 0);
        // Nothing but PLACE and SOUNDS is changed by it.
        ModulePlayer all = with(Cells.of(856, 1, 4, 0x88), Cells.effect(7, 0x99), Cells.effect(12, 7),
                Cells.effect(14, 0x91));
        all.play(24);
        is("period stays", all, PERIOD, 856);
        is("volume stays", all, VOLUME, 7);
        is("vibplace stays", all, VIBPLACE, 40);
        is("tremplace stays", all, TREMPLACE, 45);
    }

    private static void cuts() {
        for (int y = 0; y < 16; y++) {
            ModulePlayer x = with(Cells.of(856, 1, 14, 0xC0 + y));
            x.cell(0, 0, 1, Cells.effect(14, 0xE1));
            for (int tick = 0; tick < 18; tick++) {
                x.play(1);
                // The ROW has 12 TICKS, and what is cut stays so.
                int volume = y < 12 && tick >= y ? 0 : 40;
                is("volume, y " + y + ", tick " + tick, x, VOLUME, volume);
                is("heard, y " + y + ", tick " + tick, x, HEARD_VOLUME, volume);
            }
            is("it sounds", x, SOUNDS, 1);
        }
        ModulePlayer none = with(Cells.note(428, 1), Cells.effect(14, 0xC6));
        none.play(12);
        is("there is no tick 6", none, VOLUME, 40);
    }

    private static void staysWithin() {
        int[][] least = {{1, 255}, {14, 0x1F}};
        int[][] greatest = {{2, 255}, {14, 0x2F}};
        for (int[] e : least) {
            ModulePlayer x = with(Cells.of(114, 1, e[0], e[1]), Cells.effect(e[0], e[1]), Cells.effect(e[0], e[1]));
            x.play(18);
            is("the least period", x, PERIOD, 113);
        }
        for (int[] e : greatest) {
            ModulePlayer x = with(Cells.of(855, 1, e[0], e[1]), Cells.effect(e[0], e[1]), Cells.effect(e[0], e[1]));
            x.play(18);
            is("the greatest period", x, PERIOD, 856);
        }
        int[][] louder = {{10, 0xF0}, {5, 0xF0}, {6, 0xF0}, {14, 0xAF}};
        int[][] softer = {{10, 0x0F}, {5, 0x0F}, {6, 0x0F}, {14, 0xBF}};
        for (int[] e : louder) {
            ModulePlayer x = with(Cells.of(428, 1, 12, 63), Cells.effect(e[0], e[1]), Cells.effect(e[0], e[1]));
            x.play(18);
            is("the greatest volume", x, VOLUME, 64);
        }
        for (int[] e : softer) {
            ModulePlayer x = with(Cells.of(428, 1, 12, 1), Cells.effect(e[0], e[1]), Cells.effect(e[0], e[1]));
            x.play(18);
            is("the least volume", x, VOLUME, 0);
        }
    }

    private static void periodOf0() {
        int[][] effects = {{1, 9}, {2, 9}, {2, 255}, {3, 9}, {5, 9}, {14, 0x1F}, {14, 0x2F}};
        for (int[] e : effects) {
            // A TARGET is told first, so that 3 and 5 have somewhere to go.
            ModulePlayer x = with(Cells.of(300, 1, 3, 9), Cells.effect(e[0], e[1]));
            for (int tick = 0; tick < 12; tick++) {
                x.play(1);
                is("period, effect " + e[0] + ", tick " + tick, x, PERIOD, 0);
                is("heard, effect " + e[0] + ", tick " + tick, x, HEARD_PERIOD, 0);
            }
            is("target", x, TARGET, 300);
        }
    }

    private static void noneOfTheseIsDone() {
        ModulePlayer x = with(Cells.of(0, 1, 4, 0x88), Cells.of(0, 0, 7, 0x88), Cells.of(0, 0, 0, 0x37),
                Cells.of(0, 0, 6, 0x10));
        for (int tick = 0; tick < 24; tick++) {
            x.play(1);
            is("vibplace", x, VIBPLACE, 0);
            is("tremplace", x, TREMPLACE, 0);
            is("heard period", x, HEARD_PERIOD, 0);
            int volume = tick < 18 ? 40 : 40 + tick % 6;
            is("volume slides", x, VOLUME, volume);
            is("heard volume", x, HEARD_VOLUME, volume);
        }
    }

    private static void arpeggios() {
        for (int note : new int[] {113, 428, 856}) {
            for (int times = 0; times < 16; times++) {
                int higher = note;
                for (int i = 0; i < times; i++) {
                    higher = higher * 17843 / 18904;
                }
                higher = Math.max(higher, 54);
                // With y 1 resp. x 1, since NUMBER 0 is no arpeggio.
                int once = note * 17843 / 18904;
                ModulePlayer x = with(Cells.of(note, 1, 0, 16 * times + 1));
                each(note + ", x " + times, x, HEARD_PERIOD, note, higher, once, note, higher, once);
                ModulePlayer y = with(Cells.of(note, 1, 0, 16 + times));
                each(note + ", y " + times, y, HEARD_PERIOD, note, once, higher, note, once, higher);
                is("period stays", y, PERIOD, note);
            }
        }
        for (int note = 113; note <= 856; note++) {
            int once = note * 17843 / 18904;
            ModulePlayer x = with(Cells.of(note, 1, 0, 0x12));
            each("note " + note, x, HEARD_PERIOD, note, once, once * 17843 / 18904);
        }
        // Eleven times less 113 is 56, twelve times 52.
        ModulePlayer least = with(Cells.of(113, 1, 0, 0xBC));
        each("least", least, HEARD_PERIOD, 113, 56, 54);
        ModulePlayer delayed = with(Cells.of(428, 1, 0, 0x37));
        delayed.cell(0, 0, 1, Cells.effect(15, 2));
        delayed.cell(0, 0, 2, Cells.effect(14, 0xE3));
        each("ticks of a delayed row", delayed, HEARD_PERIOD, 428, 358, 283, 428, 358, 283, 428, 358);
    }

    /** The WAVE, as the document tells it. */
    private static int wave(int p, int form) {
        int q = p % 32;
        int height = form == 1 ? 8 * q : form == 2 ? 255 : 255 * q * (32 - q) / 256;
        return p < 32 ? height : -height;
    }

    private static void vibratos() {
        // At 33 the WAVE is -30: by 128, cut towards 0, it is 0 up to y 4 and -1 from y 5 on.
        for (int y = 1; y < 16; y++) {
            ModulePlayer x = longRows(Cells.of(428, 1, 0, 0), Cells.effect(4, 0x10 + y));
            x.play(31 + 1 + 33);
            is("vibplace", x, VIBPLACE, 33);
            x.play(1);
            is("y " + y + " at 33", x, HEARD_PERIOD, 428 - 30 * y / 128);
            is("period stays", x, PERIOD, 428);
        }
        for (int note : new int[] {113, 856}) {
            // What sounds may lie beyond 113 .. 856; but 54 is never reached, since a swing has 29 at most.
            ModulePlayer x = longRows(Cells.of(note, 1, 14, 0x42), Cells.effect(4, 0x1F));
            x.play(31 + 2);
            is("more than " + note, x, HEARD_PERIOD, note + 29);
            x.play(32);
            is("less than " + note, x, HEARD_PERIOD, note - 29);
        }
        // A CHANNEL that is silent vibrates also, having a PERIOD.
        ModulePlayer silent = longRows(Cells.of(428, 0, 14, 0x42), Cells.effect(4, 0x1F));
        silent.play(31 + 2);
        is("silent", silent, SOUNDS, 0);
        is("its period", silent, HEARD_PERIOD, 457);
        is("its vibplace", silent, VIBPLACE, 1);
        ModulePlayer first = with(Cells.of(428, 1, 14, 0x42), Cells.effect(4, 0x1F));
        first.play(7);
        is("tick 0 has none", first, HEARD_PERIOD, 428);
        is("tick 0 has none", first, VIBPLACE, 0);
    }

    private static void vibPlaces() {
        for (int x = 1; x < 16; x++) {
            ModulePlayer player = longRows(Cells.note(428, 1), Cells.effect(4, 16 * x + 1));
            player.play(31 + 1);
            int place = 0;
            for (int tick = 0; tick < 70; tick++) {
                player.play(1);
                place = (place + x) % 64;
                is("x " + x + ", tick " + tick, player, VIBPLACE, place);
            }
        }
        // 49 and 15 are 64, which is 0.
        ModulePlayer edge = longRows(Cells.note(428, 1), Cells.effect(4, 0x71), Cells.effect(4, 0xF0));
        edge.cell(0, 1, 1, Cells.effect(15, 8));
        edge.play(31 + 8);
        is("vibplace", edge, VIBPLACE, 49);
        edge.play(2);
        is("vibplace", edge, VIBPLACE, 0);
    }

    private static void tremolos() {
        for (int volume : new int[] {0, 1, 40, 63, 64}) {
            for (int y = 1; y < 16; y += 7) {
                ModulePlayer x = longRows(Cells.of(428, 1, 12, volume), Cells.effect(7, 0x10 + y));
                x.play(31 + 1);
                for (int p = 0; p < 64; p++) {
                    x.play(1);
                    int heard = volume + wave(p, 0) * y / 64;
                    is(volume + " at " + p, x, HEARD_VOLUME, heard < 0 ? 0 : heard > 64 ? 64 : heard);
                }
                is("volume stays", x, VOLUME, volume);
            }
        }
        ModulePlayer first = with(Cells.of(428, 1, 14, 0x72), Cells.effect(7, 0x1F));
        first.play(7);
        is("tick 0 has none", first, HEARD_VOLUME, 40);
        is("tick 0 has none", first, TREMPLACE, 0);
    }

    private static void tremPlaces() {
        for (int x = 1; x < 16; x++) {
            ModulePlayer player = longRows(Cells.note(428, 1), Cells.effect(7, 16 * x + 1));
            player.play(31 + 1);
            int place = 0;
            for (int tick = 0; tick < 70; tick++) {
                player.play(1);
                place = (place + x) % 64;
                is("x " + x + ", tick " + tick, player, TREMPLACE, place);
            }
            is("vibplace stays", player, VIBPLACE, 0);
        }
    }

    private static void waves() {
        for (int form = 0; form < 4; form++) {
            for (int y = 1; y < 16; y++) {
                ModulePlayer x = longRows(Cells.of(428, 1, 14, 0x40 + form), Cells.effect(4, 0x10 + y));
                x.play(31 + 1);
                for (int p = 0; p < 64; p++) {
                    x.play(1);
                    is("form " + form + " at " + p, x, HEARD_PERIOD, 428 + wave(p, form) * y / 128);
                }
                x.play(1);
                is("form " + form + " at 0 again", x, HEARD_PERIOD, 428 + wave(0, form) * y / 128);
            }
            ModulePlayer z = longRows(Cells.of(428, 1, 14, 0x70 + form), Cells.effect(7, 0x15));
            z.play(31 + 1);
            for (int p = 0; p < 64; p++) {
                z.play(1);
                int heard = 40 + wave(p, form) * 5 / 64;
                is("tremolo of form " + form + " at " + p, z, HEARD_VOLUME, heard);
            }
        }
    }
}
