/** Promise 20 channel: what CELLS do on each TICK (Terms 3). */
public final class EffectTest {
    private static final int SAMPLE = 0;
    private static final int VOLUME = 1;
    private static final int PERIOD = 2;
    private static final int PLACE = 3;
    private static final int SOUNDS = 4;
    private static final int HEARD_PERIOD = 5;
    private static final int HEARD_VOLUME = 6;
    private static final int TUNE = 7;
    private static final int TARGET = 8;
    private static final int VIBPLACE = 10;
    private static final int TREMPLACE = 11;

    public static void main(String[] args) {
        noSuchChannel();
        tunes();
        samplesWithoutNotes();
        notesWithoutSamples();
        arpeggios();
        slides();
        portamentos();
        vibratos();
        vibratoForms();
        tremolos();
        nothingWithoutPeriod();
        volumeSlides();
        offsets();
        setVolumes();
        fineSlides();
        setTunes();
        strikesAgain();
        cuts();
        lateNotes();
        Due.end();
    }

    /** Samples 1 (volume 40, tune 0), 2 (volume 20, tune 3) and 3 (no length). */
    private static ModulePlayer player() {
        ModulePlayer x = new ModulePlayer(8000);
        x.sample(1, 2000, 0, 40);
        x.sample(2, 1000, 3, 20);
        x.sample(3, 0, -2, 64);
        return x;
    }

    private static void row(ModulePlayer x, int row, int cell) {
        x.cell(0, row, 0, cell);
    }

    /** What a CHANNEL has behind each of the next TICKS. */
    private static void each(String name, ModulePlayer x, int what, int... want) {
        for (int i = 0; i < want.length; i++) {
            x.play(1);
            Due.is(name + " behind tick " + i, x.channel(0, what), want[i]);
        }
    }

    private static void noSuchChannel() {
        ModulePlayer x = player();
        x.play(1);
        for (int c : new int[] {-1, 4, Integer.MAX_VALUE, Integer.MIN_VALUE}) {
            Due.is("channel(" + c + ", 0)", x.channel(c, 0), -1);
        }
        for (int what : new int[] {-1, 14, Integer.MAX_VALUE, Integer.MIN_VALUE}) {
            Due.is("channel(0, " + what + ")", x.channel(0, what), -1);
        }
    }

    private static void tunes() {
        int[][] periodTuneWant = {
            {428, 0, 428}, {428, 1, 425}, {428, -1, 431}, {428, 7, 407}, {428, -8, 452}, {137, 1, 137},
            {138, 1, 137}, {137, -1, 137}, {138, -1, 139}, {112, 0, 113}, {1, 0, 113}, {113, 7, 113},
            {856, 0, 856}, {857, 0, 856}, {4095, 0, 856}, {850, -8, 856}, {4095, 7, 856}, {900, 7, 855},
        };
        for (int[] w : periodTuneWant) {
            ModulePlayer x = new ModulePlayer(8000);
            x.sample(1, 2, w[1], 64);
            row(x, 0, Cells.note(w[0], 1));
            x.play(1);
            Due.is("tuned " + w[0] + " " + w[1], x.channel(0, PERIOD), w[2]);
            Due.is("tune", x.channel(0, TUNE), w[1]);
            Due.is("heard", x.channel(0, HEARD_PERIOD), w[2]);
        }
    }

    private static void samplesWithoutNotes() {
        ModulePlayer x = player();
        row(x, 0, Cells.note(428, 1));
        row(x, 1, Cells.note(0, 2));
        row(x, 2, Cells.note(0, 3));
        x.play(6);
        int place = x.channel(0, PLACE);
        x.play(1);
        Due.is("sample", x.channel(0, SAMPLE), 2);
        Due.is("volume", x.channel(0, VOLUME), 20);
        Due.is("tune", x.channel(0, TUNE), 3);
        Due.is("period stays", x.channel(0, PERIOD), 428);
        Due.yes("place goes on", x.channel(0, PLACE) > place);
        x.play(6);
        Due.is("sample", x.channel(0, SAMPLE), 3);
        Due.is("it has no bytes", x.channel(0, SOUNDS), 0);
    }

    private static void notesWithoutSamples() {
        ModulePlayer x = player();
        row(x, 0, Cells.note(428, 0));
        row(x, 1, Cells.note(428, 3));
        row(x, 2, Cells.note(428, 2));
        row(x, 3, Cells.of(0, 0, 12, 7));
        row(x, 4, Cells.note(214, 0));
        x.play(1);
        Due.is("period", x.channel(0, PERIOD), 428);
        Due.is("silent", x.channel(0, SOUNDS), 0);
        x.play(6);
        Due.is("silent", x.channel(0, SOUNDS), 0);
        x.play(6);
        Due.is("sounds", x.channel(0, SOUNDS), 1);
        Due.is("tuned", x.channel(0, PERIOD), 419);
        x.play(12);
        Due.is("tuned by the sample kept", x.channel(0, PERIOD), 210);
        Due.is("volume stays", x.channel(0, VOLUME), 7);
        Due.is("from its begin", x.channel(0, PLACE), 160 * (int) (3546895L * 65536 / (210 * 8000)) >> 16);
    }

    private static void arpeggios() {
        ModulePlayer x = player();
        row(x, 0, Cells.of(428, 1, 0, 0x37));
        row(x, 1, Cells.of(0, 0, 2, 20));
        row(x, 2, Cells.of(0, 0, 0, 0x01));
        row(x, 3, Cells.of(113, 0, 0, 0xFC));
        each("arpeggio", x, HEARD_PERIOD, 428, 358, 283, 428, 358, 283);
        x.play(6);
        Due.is("period", x.channel(0, PERIOD), 528);
        // The PERIOD as it is, and what the NOTE PERIOD gives.
        each("arpeggio", x, HEARD_PERIOD, 528, 428, 403, 528, 428, 403);
        each("least 54", x, HEARD_PERIOD, 113, 54, 54, 113);
        Due.is("period", x.channel(0, PERIOD), 113);
        ModulePlayer late = player();
        late.cell(0, 0, 1, Cells.effect(15, 2));
        late.cell(0, 0, 2, Cells.effect(14, 0xE1));
        row(late, 0, Cells.of(428, 1, 0, 0x37));
        each("delayed", late, HEARD_PERIOD, 428, 358, 283, 428);
    }

    private static void slides() {
        ModulePlayer x = player();
        row(x, 0, Cells.of(130, 1, 1, 5));
        row(x, 1, Cells.of(850, 0, 2, 2));
        row(x, 2, Cells.of(428, 0, 1, 0));
        row(x, 3, Cells.of(428, 0, 2, 255));
        each("up", x, PERIOD, 130, 125, 120, 115, 113, 113);
        each("down", x, PERIOD, 850, 852, 854, 856, 856, 856);
        each("by 0", x, PERIOD, 428, 428, 428, 428, 428, 428);
        each("by 255", x, HEARD_PERIOD, 428, 683, 856);
    }

    private static void portamentos() {
        ModulePlayer x = player();
        row(x, 0, Cells.of(400, 1, 3, 7));
        row(x, 1, Cells.note(300, 1));
        row(x, 2, Cells.of(320, 2, 3, 6));
        row(x, 3, Cells.of(0, 0, 3, 0));
        row(x, 4, Cells.of(290, 0, 5, 0x20));
        row(x, 5, Cells.of(0, 0, 5, 0x03));
        x.play(6);
        Due.is("target", x.channel(0, TARGET), 400);
        Due.is("no period to go from", x.channel(0, PERIOD), 0);
        Due.is("silent", x.channel(0, SOUNDS), 0);
        x.play(6);
        Due.is("target stays", x.channel(0, TARGET), 400);
        int place = x.channel(0, PLACE);
        // 320 tuned by 3 is 314.
        each("to", x, PERIOD, 300, 306, 312, 314, 314, 314);
        Due.is("target", x.channel(0, TARGET), 314);
        Due.is("sample", x.channel(0, SAMPLE), 2);
        Due.is("volume", x.channel(0, VOLUME), 20);
        Due.is("not from its begin", x.channel(0, PLACE), place);
        Due.is("but behind the end of 2", x.channel(0, SOUNDS), 0);
        each("stays", x, PERIOD, 314, 314, 314, 314, 314, 314);
        // 290 tuned by 3 is 284; PORTA is 6 still.
        each("down", x, PERIOD, 314, 308, 302, 296, 290, 284);
        Due.is("volume", x.channel(0, VOLUME), 30);
        each("volume", x, VOLUME, 30, 27, 24, 21, 18, 15);
        ModulePlayer none = player();
        row(none, 0, Cells.of(300, 1, 0, 0));
        row(none, 1, Cells.of(0, 0, 3, 9));
        none.play(6);
        each("no target", none, PERIOD, 300, 300, 300);
        ModulePlayer on = player();
        row(on, 0, Cells.of(856, 1, 4, 0x80));
        row(on, 1, Cells.of(428, 0, 3, 255));
        on.play(6);
        Due.is("place", on.channel(0, PLACE), 497);
        each("it goes on", on, PLACE, 580, 698, 863);
        Due.is("vibplace stays", on.channel(0, VIBPLACE), 40);
    }

    private static void vibratos() {
        ModulePlayer x = player();
        row(x, 0, Cells.of(428, 1, 4, 0xA8));
        row(x, 1, Cells.of(0, 0, 4, 0x00));
        row(x, 2, Cells.of(0, 0, 4, 0x0F));
        row(x, 3, Cells.of(0, 0, 6, 0x20));
        row(x, 4, Cells.of(0, 0, 4, 0x30));
        row(x, 5, Cells.of(300, 0, 0, 0));
        // The wave at 0, 10, 20, 30, 40 is 0, 219, 239, 59, -191; eight times it, by 128.
        each("vibrato", x, HEARD_PERIOD, 428, 428, 441, 442, 431, 417);
        Due.is("vibplace", x.channel(0, VIBPLACE), 50);
        Due.is("period stays", x.channel(0, PERIOD), 428);
        // At 50, 60, 6, 16, 26: -251, -111, 155, 255, 155.
        each("again", x, HEARD_PERIOD, 428, 413, 422, 437, 443, 437);
        Due.is("vibplace", x.channel(0, VIBPLACE), 36);
        // At 36, 46, 56, 2, 12: -111, -251, -191, 59, 239; fifteen times.
        each("deeper", x, HEARD_PERIOD, 428, 415, 399, 406, 434, 456);
        Due.is("vibplace", x.channel(0, VIBPLACE), 22);
        // At 22, 32, 42: 219, 0, -219.
        each("with a slide", x, HEARD_PERIOD, 428, 453, 428, 403);
        Due.is("volume", x.channel(0, VOLUME), 46);
        x.play(2);
        Due.is("vibplace", x.channel(0, VIBPLACE), 8);
        each("slower", x, VIBPLACE, 8, 11, 14, 17, 20, 23);
        each("a note", x, VIBPLACE, 0, 0);
    }

    private static void vibratoForms() {
        ModulePlayer x = player();
        x.cell(0, 0, 0, Cells.of(428, 1, 14, 0x41));
        x.cell(0, 1, 0, Cells.effect(4, 0xF8));
        x.cell(0, 2, 0, Cells.effect(14, 0x42));
        x.cell(0, 3, 0, Cells.of(428, 0, 4, 0));
        x.cell(0, 4, 0, Cells.effect(14, 0x47));
        x.cell(0, 5, 0, Cells.of(428, 0, 4, 0));
        x.cell(0, 6, 0, Cells.effect(14, 0x44));
        x.cell(0, 7, 0, Cells.of(428, 0, 4, 0));
        x.play(6);
        // At 0, 15, 30, 45, 60; form 1: 0, 120, 240, -104, -224.
        each("form 1", x, HEARD_PERIOD, 428, 428, 435, 443, 422, 414);
        x.play(6);
        each("form 2", x, HEARD_PERIOD, 428, 443, 443, 443, 413, 413);
        x.play(6);
        // Forms 3 and 0: 0, 254, 59, -246 (at 13: 255 * 13 * 19 / 256), -111.
        each("form 3", x, HEARD_PERIOD, 428, 428, 443, 431, 413, 422);
        x.play(6);
        each("form 0", x, HEARD_PERIOD, 428, 428, 443, 431, 413, 422);
        ModulePlayer edge = player();
        row(edge, 0, Cells.of(428, 1, 14, 0x42));
        row(edge, 1, Cells.effect(4, 0x18));
        edge.cell(0, 0, 1, Cells.effect(15, 31));
        edge.cell(0, 1, 1, Cells.effect(14, 0xE1));
        edge.play(31 + 1 + 32);
        Due.is("at 31", edge.channel(0, HEARD_PERIOD), 443);
        edge.play(1);
        Due.is("at 32", edge.channel(0, HEARD_PERIOD), 413);
    }

    private static void tremolos() {
        ModulePlayer x = player();
        row(x, 0, Cells.of(428, 1, 7, 0xA4));
        row(x, 1, Cells.of(0, 0, 7, 0x0F));
        row(x, 2, Cells.of(0, 0, 14, 0x72));
        row(x, 3, Cells.of(428, 0, 7, 0xF1));
        // Four times 0, 219, 239, 59, -191, by 64.
        each("tremolo", x, HEARD_VOLUME, 40, 40, 53, 54, 43, 29);
        Due.is("tremplace", x.channel(0, TREMPLACE), 50);
        Due.is("volume stays", x.channel(0, VOLUME), 40);
        // Fifteen times -251, -111, 155, 255, 155, by 64: within 0 .. 64.
        each("deeper", x, HEARD_VOLUME, 40, 0, 14, 64, 64, 64);
        x.play(6);
        each("form 2", x, HEARD_VOLUME, 40, 43, 43, 43, 37, 37);
        Due.is("tremplace", x.channel(0, TREMPLACE), 11);
        Due.is("vibplace", x.channel(0, VIBPLACE), 0);
        Due.is("period", x.channel(0, HEARD_PERIOD), 428);
        ModulePlayer forms = player();
        row(forms, 0, Cells.of(428, 1, 7, 0x84));
        // At 0, 8, 16, 24, 32; form 1 (5 modulo 4): 0, 64, 128, 192, 0; form 3: 0, 191, 255, 191, 0.
        row(forms, 1, Cells.of(0, 0, 14, 0x75));
        row(forms, 2, Cells.of(428, 0, 7, 0));
        row(forms, 3, Cells.of(0, 0, 14, 0x73));
        row(forms, 4, Cells.of(428, 0, 7, 0));
        forms.play(12);
        each("form 1", forms, HEARD_VOLUME, 40, 40, 44, 48, 52, 40);
        forms.play(6);
        each("form 3", forms, HEARD_VOLUME, 40, 40, 51, 55, 51, 40);
    }

    private static void nothingWithoutPeriod() {
        ModulePlayer x = player();
        row(x, 0, Cells.of(0, 1, 4, 0x88));
        row(x, 1, Cells.of(0, 0, 7, 0x88));
        row(x, 2, Cells.of(0, 0, 0, 0x37));
        row(x, 3, Cells.of(0, 0, 2, 9));
        row(x, 4, Cells.of(0, 0, 14, 0x25));
        row(x, 5, Cells.of(0, 0, 6, 0x10));
        for (int tick = 0; tick < 36; tick++) {
            x.play(1);
            Due.is("vibplace", x.channel(0, VIBPLACE), 0);
            Due.is("tremplace", x.channel(0, TREMPLACE), 0);
            Due.is("period", x.channel(0, PERIOD), 0);
            Due.is("heard period", x.channel(0, HEARD_PERIOD), 0);
            int volume = tick < 30 ? 40 : 40 + tick % 6;
            Due.is("volume", x.channel(0, VOLUME), volume);
            Due.is("heard volume", x.channel(0, HEARD_VOLUME), volume);
        }
    }

    private static void volumeSlides() {
        ModulePlayer x = player();
        row(x, 0, Cells.of(428, 1, 10, 0x90));
        row(x, 1, Cells.of(0, 0, 10, 0x0F));
        row(x, 2, Cells.of(0, 0, 10, 0x1F));
        row(x, 3, Cells.of(0, 0, 10, 0x00));
        each("more", x, VOLUME, 40, 49, 58, 64, 64, 64);
        each("less", x, VOLUME, 64, 49, 34, 19, 4, 0);
        each("x goes first", x, HEARD_VOLUME, 0, 1, 2, 3, 4, 5);
        each("none", x, VOLUME, 5, 5, 5, 5, 5, 5);
    }

    private static void offsets() {
        // At 8000 frames a second and PERIOD 856 a TICK takes 82.87 bytes.
        ModulePlayer x = player();
        row(x, 0, Cells.of(856, 1, 9, 3));
        row(x, 1, Cells.of(0, 0, 9, 2));
        row(x, 2, Cells.of(856, 0, 9, 0));
        row(x, 3, Cells.of(856, 0, 9, 7));
        row(x, 4, Cells.of(856, 0, 9, 8));
        row(x, 5, Cells.of(856, 2, 9, 255));
        x.play(1);
        Due.is("place", x.channel(0, PLACE), 768 + 82);
        x.play(5);
        int place = x.channel(0, PLACE);
        x.play(1);
        Due.is("no period: goes on", x.channel(0, PLACE), place + 83);
        x.play(6);
        Due.is("the offset kept", x.channel(0, PLACE), 512 + 82);
        x.play(6);
        Due.is("place", x.channel(0, PLACE), 1792 + 82);
        Due.is("sounds", x.channel(0, SOUNDS), 1);
        x.play(6);
        Due.is("not below the length", x.channel(0, PLACE), 2048);
        Due.is("silent", x.channel(0, SOUNDS), 0);
        x.play(6);
        Due.is("far behind", x.channel(0, PLACE), 65280);
        Due.is("silent", x.channel(0, SOUNDS), 0);
        ModulePlayer y = new ModulePlayer(8000);
        y.sample(1, 512, 0, 64);
        row(y, 0, Cells.of(856, 1, 9, 2));
        row(y, 1, Cells.of(856, 1, 0, 0));
        y.play(1);
        Due.is("just the length", y.channel(0, PLACE), 512);
        Due.is("silent", y.channel(0, SOUNDS), 0);
        y.play(6);
        Due.is("from its begin", y.channel(0, PLACE), 82);
        Due.is("sounds", y.channel(0, SOUNDS), 1);
    }

    private static void setVolumes() {
        ModulePlayer x = player();
        row(x, 0, Cells.of(428, 1, 12, 64));
        row(x, 1, Cells.of(0, 0, 12, 65));
        row(x, 2, Cells.of(0, 1, 12, 3));
        row(x, 3, Cells.of(0, 0, 12, 255));
        row(x, 4, Cells.of(0, 0, 12, 0));
        int[] want = {64, 64, 3, 64, 0};
        for (int volume : want) {
            x.play(6);
            Due.is("volume", x.channel(0, VOLUME), volume);
            Due.is("heard volume", x.channel(0, HEARD_VOLUME), volume);
        }
    }

    private static void fineSlides() {
        ModulePlayer x = player();
        row(x, 0, Cells.of(120, 1, 14, 0x15));
        row(x, 1, Cells.of(0, 0, 14, 0x1F));
        row(x, 2, Cells.of(850, 0, 14, 0x24));
        row(x, 3, Cells.of(0, 0, 14, 0x24));
        row(x, 4, Cells.of(0, 0, 14, 0xAF));
        row(x, 5, Cells.of(0, 0, 14, 0xAF));
        row(x, 6, Cells.of(0, 2, 14, 0xBC));
        row(x, 7, Cells.of(0, 0, 14, 0xB9));
        int[] periods = {115, 113, 854, 856, 856, 856, 856, 856};
        int[] volumes = {40, 40, 40, 40, 55, 64, 8, 0};
        for (int row = 0; row < periods.length; row++) {
            x.play(1);
            Due.is("period at once", x.channel(0, HEARD_PERIOD), periods[row]);
            Due.is("volume at once", x.channel(0, HEARD_VOLUME), volumes[row]);
            x.play(5);
            Due.is("period", x.channel(0, PERIOD), periods[row]);
            Due.is("volume", x.channel(0, VOLUME), volumes[row]);
        }
    }

    private static void setTunes() {
        ModulePlayer x = player();
        row(x, 0, Cells.of(428, 1, 14, 0x57));
        row(x, 1, Cells.of(428, 0, 14, 0x58));
        row(x, 2, Cells.of(428, 0, 14, 0x5F));
        row(x, 3, Cells.of(428, 0, 14, 0x50));
        row(x, 4, Cells.of(428, 2, 14, 0x51));
        int[] tunes = {7, -8, -1, 0, 1};
        int[] periods = {428, 407, 452, 431, 419};
        for (int row = 0; row < tunes.length; row++) {
            x.play(6);
            Due.is("tune", x.channel(0, TUNE), tunes[row]);
            Due.is("period, by the tune before", x.channel(0, PERIOD), periods[row]);
        }
    }

    private static void strikesAgain() {
        // At 8000 frames a second and PERIOD 856 a TICK takes 82.87 bytes.
        ModulePlayer x = player();
        row(x, 0, Cells.of(856, 1, 14, 0x92));
        row(x, 1, Cells.of(0, 0, 14, 0x93));
        row(x, 2, Cells.of(0, 0, 14, 0x90));
        each("of 2", x, PLACE, 82, 165, 82, 165, 82, 165);
        each("of 3, on tick 0 too", x, PLACE, 82, 165, 248, 82, 165, 248);
        each("of 0", x, PLACE, 331, 414, 497);
        ModulePlayer silent = player();
        silent.sample(1, 2, 0, 64);
        row(silent, 0, Cells.of(856, 1, 0, 0));
        row(silent, 1, Cells.of(0, 0, 14, 0x91));
        row(silent, 2, Cells.of(0, 3, 14, 0x91));
        silent.play(6);
        Due.is("it is silent", silent.channel(0, SOUNDS), 0);
        silent.sample(1, 2000, 0, 64);
        each("it sounds again", silent, SOUNDS, 1, 1, 1, 1, 1, 1);
        each("without a length it does not", silent, SOUNDS, 0, 0);
        ModulePlayer noPeriod = player();
        row(noPeriod, 0, Cells.of(0, 1, 14, 0x91));
        each("it sounds", noPeriod, SOUNDS, 1, 1);
        Due.is("but goes nowhere", noPeriod.channel(0, PLACE), 0);
    }

    private static void cuts() {
        ModulePlayer x = player();
        row(x, 0, Cells.of(428, 1, 14, 0xC3));
        row(x, 1, Cells.of(428, 1, 14, 0xC0));
        row(x, 2, Cells.of(428, 1, 14, 0xC6));
        each("on tick 3", x, HEARD_VOLUME, 40, 40, 40, 0, 0, 0);
        each("on tick 0", x, VOLUME, 0, 0, 0, 0, 0, 0);
        each("on no tick", x, VOLUME, 40, 40, 40, 40, 40, 40);
        Due.is("it sounds", x.channel(0, SOUNDS), 1);
    }

    private static void lateNotes() {
        ModulePlayer x = player();
        row(x, 0, Cells.of(428, 1, 14, 0xD2));
        row(x, 1, Cells.of(300, 2, 14, 0xD0));
        row(x, 2, Cells.of(428, 1, 14, 0xD6));
        row(x, 3, Cells.of(428, 1, 14, 0xD7));
        x.cell(0, 3, 1, Cells.effect(14, 0xE1));
        each("on tick 2", x, PERIOD, 0, 0, 428, 428, 428, 428);
        Due.is("sample", x.channel(0, SAMPLE), 1);
        each("on tick 0", x, PERIOD, 294, 294, 294, 294, 294, 294);
        each("on no tick", x, SAMPLE, 2, 2, 2, 2, 2, 2);
        each("on a delayed one", x, VOLUME, 20, 20, 20, 20, 20, 20, 20, 40, 40, 40, 40, 40);
        Due.is("row", x.now(1), 3);
    }
}
