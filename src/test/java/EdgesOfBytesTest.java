import java.util.function.Consumer;

/** Terms 1 (BYTES and FAULTS) and promises 5 load, 6 fault and 7 save, sentence by sentence, at their edges. */
public final class EdgesOfBytesTest {
    private static final int HEAD = 1084;
    private static final int PATTERN = 1024;
    private static final int ONE_PATTERN = HEAD + PATTERN;
    private static final int LENGTH = 22;
    private static final int TUNE = 24;
    private static final int VOLUME = 25;
    private static final int START = 26;
    private static final int LOOP = 28;

    public static void main(String[] args) {
        bytes();
        faults();
        calls();
        Due.end();
    }

    private static void bytes() {
        Sentence.holds("BYTES of a MODULE: 20 (any; written 0); for each SAMPLE 30: 22 (any; written 0)",
                EdgesOfBytesTest::anyBytes);
        Sentence.holds("half its LENGTH (2, the higher first)", EdgesOfBytesTest::halfLength);
        Sentence.holds("TUNE (1: 0 .. 7, 8 .. 15 for -8 .. -1)", EdgesOfBytesTest::tunes);
        Sentence.holds("VOLUME (1), half of START (2), half of LOOP (2)", EdgesOfBytesTest::volumeStartLoop);
        Sentence.holds("how long the SONG is (1), RESTART (1)", EdgesOfBytesTest::songAndRestart);
        Sentence.holds("the places (128; those behind the SONG count for nothing, written 0), 77 46 75 46",
                EdgesOfBytesTest::placesBehind);
        Sentence.holds("then PATTERNS from 0 up to the greatest in the SONG", EdgesOfBytesTest::patternsUpToGreatest);
        Sentence.holds("each 64 times 4 CELLS of 4 bytes: the higher four bits of SAMPLE, then PERIOD (12 bits);"
                + " the second: lower 8 bits of PERIOD; the third: lower four bits of SAMPLE, then EFFECT;"
                + " the fourth: NUMBER", EdgesOfBytesTest::cells);
        Sentence.holds("(of SAMPLE the lower five bits count)", EdgesOfBytesTest::fiveBits);
        Sentence.holds("then each SAMPLE's bytes.", EdgesOfBytesTest::sampleBytes);
    }

    private static void faults() {
        Sentence.holds("FAULTS, the first one in this order, with its place", EdgesOfBytesTest::inThisOrder);
        Sentence.holds("1 less than 1084 bytes (at the length).", EdgesOfBytesTest::tooShort);
        Sentence.holds("2 no 77 46 75 46 (at the first of these that isn't so).", EdgesOfBytesTest::noMark);
        Sentence.holds("Then by place: 3", EdgesOfBytesTest::byPlace);
        Sentence.holds("a LENGTH above 2000", EdgesOfBytesTest::lengthAbove);
        Sentence.holds("or with those ahead above 4000", EdgesOfBytesTest::lengthsAhead);
        Sentence.holds("a TUNE above 15, a VOLUME above 64", EdgesOfBytesTest::tuneAndVolumeAbove);
        Sentence.holds("START and LOOP (START alone with a LOOP of 2 or less) above LENGTH (at START)",
                EdgesOfBytesTest::loopsAbove);
        Sentence.holds("a SONG of 0 or more than 128", EdgesOfBytesTest::songLengths);
        Sentence.holds("a place of the SONG above 7 (each at its first byte).", EdgesOfBytesTest::placesAbove);
        Sentence.holds("4 fewer bytes than PATTERNS and SAMPLES need (at the length).", EdgesOfBytesTest::tooFew);
        Sentence.holds("Bytes behind them don't matter.", EdgesOfBytesTest::bytesBehind);
        Sentence.holds("PATTERNS that the SONG doesn't need, and places behind it, are 0 then.",
                EdgesOfBytesTest::notNeeded);
    }

    private static void calls() {
        Sentence.holds("The TAPE (which stays) is read: the MODULE is that; PLAYING is at its begin.",
                EdgesOfBytesTest::moduleIsThat);
        Sentence.holds("is read: the MODULE is that", EdgesOfBytesTest::otherSamples);
        Sentence.holds("How many PATTERNS it has; NONE with a FAULT.", EdgesOfBytesTest::howManyPatterns);
        Sentence.holds("Of the latest load(): 0 the FAULT, 1 the place (0 and NONE if it was right, or ahead of any).",
                EdgesOfBytesTest::latestLoad);
        Sentence.holds("(0 and NONE if it was right, or ahead of any). NONE for others.",
                EdgesOfBytesTest::otherFaults);
        Sentence.holds("The TAPE becomes the BYTES of the MODULE: how many", EdgesOfBytesTest::tapeBecomes);
        Sentence.holds("NONE if these are more than 9000.", EdgesOfBytesTest::moreThan9000);
    }

    private static int field(int s, int at) {
        return 20 + 30 * (s - 1) + at;
    }

    private static void pair(ModulePlayer x, int at, int value) {
        x.poke(at, value >> 8);
        x.poke(at + 1, value);
    }

    private static int pairAt(ModulePlayer x, int at) {
        return x.tape(at) * 256 + x.tape(at + 1);
    }

    /** The tape is a module of one place, of n bytes that are 0 but for those that must not be. */
    private static void plain(ModulePlayer x, int n) {
        x.end(0);
        x.poke(n - 1, 0);
        x.poke(950, 1);
        x.poke(1080, 77);
        x.poke(1081, 46);
        x.poke(1082, 75);
        x.poke(1083, 46);
        x.end(n);
    }

    private static ModulePlayer plain(int n) {
        ModulePlayer x = new ModulePlayer(8000);
        plain(x, n);
        return x;
    }

    private static void loads(String what, ModulePlayer x, int patterns) {
        Due.is(what + ": load()", x.load(), patterns);
        Due.is(what + ": fault(0)", x.fault(0), 0);
        Due.is(what + ": fault(1)", x.fault(1), -1);
    }

    /** A plain tape of n bytes with something wrong is refused, and nothing changes. */
    private static void refused(String what, int n, Consumer<ModulePlayer> wrong, int fault, int place) {
        Refused.load(what, x -> {
            plain(x, n);
            wrong.accept(x);
        }, fault, place);
    }

    private static void anyBytes() {
        ModulePlayer x = plain(ONE_PATTERN);
        int[] any = {0, 19, 20, 41, field(2, 0), field(2, 21), field(31, 0), field(31, 21)};
        for (int at : any) {
            x.poke(at, 255);
        }
        loads("any bytes", x, 1);
        x.save();
        for (int at : any) {
            Due.is("written: tape(" + at + ")", x.tape(at), 0);
        }
        for (int from = 0; from < 950; from += 100) {
            ModulePlayer y = allAny();
            loads("all of them any", y, 1);
            y.end(0);
            Due.is("save()", y.save(), ONE_PATTERN + 2);
            for (int i = from; i < from + 100; i++) {
                int want = i == field(31, LENGTH) + 1 ? 1 : i == 950 || i == 951 ? i - 949 : 0;
                Due.is("written: tape(" + i + ")", y.tape(i), want);
            }
            Due.is("the sample's byte", y.tape(ONE_PATTERN), 5);
        }
    }

    /** A module with two bytes of sample 31, and 255 wherever any byte may be. */
    private static ModulePlayer allAny() {
        ModulePlayer x = new ModulePlayer(8000);
        for (int i = 0; i < 54; i++) {
            x.feed(-1, -1, -1, -1, -1);
        }
        for (int s = 1; s <= 31; s++) {
            for (int i = LENGTH; i < 30; i++) {
                x.poke(field(s, i), 0);
            }
        }
        x.poke(field(31, LENGTH) + 1, 1);
        x.poke(950, 1);
        x.poke(951, 2);
        x.poke(952, 0);
        int[] mark = {77, 46, 75, 46};
        for (int i = 0; i < 4; i++) {
            x.poke(1080 + i, mark[i]);
        }
        x.poke(ONE_PATTERN, 5);
        x.poke(ONE_PATTERN + 1, 0);
        return x;
    }

    private static void halfLength() {
        int[][] higherLowerLength = {{0, 0, 0}, {0, 1, 2}, {1, 0, 512}, {3, 231, 1998}, {3, 232, 2000}, {0, 255, 510}};
        for (int[] w : higherLowerLength) {
            ModulePlayer x = plain(ONE_PATTERN + 2000);
            x.poke(field(9, LENGTH), w[0]);
            x.poke(field(9, LENGTH) + 1, w[1]);
            loads("length " + w[2], x, 1);
            Due.is("its last byte", x.wave(9, w[2] - 1, 0) ? 1 : 0, w[2] > 0 ? 1 : 0);
            Due.no("the byte behind", x.wave(9, w[2], 0));
            ModulePlayer y = new ModulePlayer(8000);
            y.sample(9, w[2], 0, 0);
            y.save();
            Due.is("written: the higher", y.tape(field(9, LENGTH)), w[0]);
            Due.is("written: the lower", y.tape(field(9, LENGTH) + 1), w[1]);
        }
    }

    private static void tunes() {
        for (int written = 0; written < 16; written++) {
            int tune = written < 8 ? written : written - 16;
            ModulePlayer x = plain(ONE_PATTERN);
            x.poke(field(31, TUNE), written);
            loads("tune " + written, x, 1);
            x.cell(0, 0, 0, Cells.note(0, 31));
            x.play(1);
            Due.is("the tune of " + written, x.channel(0, 7), tune);
            ModulePlayer y = new ModulePlayer(8000);
            y.sample(31, 0, tune, 0);
            y.save();
            Due.is("tune " + tune + " written", y.tape(field(31, TUNE)), written);
        }
    }

    private static void volumeStartLoop() {
        ModulePlayer x = plain(ONE_PATTERN + 2000);
        pair(x, field(1, LENGTH), 1000);
        x.poke(field(1, VOLUME), 64);
        pair(x, field(1, START), 300);
        pair(x, field(1, LOOP), 700);
        loads("a loop up to the end", x, 1);
        x.cell(0, 0, 0, Cells.note(113, 1));
        x.play(5);
        Due.is("volume", x.channel(0, 1), 64);
        // At PERIOD 113 each of 800 FRAMES takes 257134 of 65536 to a byte; START is 600, LOOP 1400.
        long place = 600 * 65536L + (800 * 257134L - 600 * 65536L) % (1400 * 65536L);
        Due.is("place", x.channel(0, 3), place >> 16);
        Due.is("place modulo 65536", x.channel(0, 9), place & 65535);
        ModulePlayer y = new ModulePlayer(8000);
        y.sample(1, 2000, 0, 63);
        y.loop(1, 600, 1400);
        y.save();
        Due.is("written: volume", y.tape(field(1, VOLUME)), 63);
        Due.is("written: half of start", pairAt(y, field(1, START)), 300);
        Due.is("written: half of loop", pairAt(y, field(1, LOOP)), 700);
        y.loop(1, 2000, 2);
        y.save();
        Due.is("written: half of start", pairAt(y, field(1, START)), 1000);
        Due.is("written: half of loop", pairAt(y, field(1, LOOP)), 1);
    }

    private static void songAndRestart() {
        int[][] songs = {{1, 0}, {128, 255}, {2, 1}};
        for (int[] s : songs) {
            ModulePlayer x = plain(ONE_PATTERN);
            x.poke(950, s[0]);
            x.poke(951, s[1]);
            loads("a song of " + s[0], x, 1);
            x.end(0);
            x.save();
            Due.is("written: its length", x.tape(950), s[0]);
            Due.is("written: restart", x.tape(951), s[1]);
        }
        ModulePlayer x = plain(ONE_PATTERN);
        x.poke(950, 3);
        x.poke(951, 2);
        loads("three places, restart 2", x, 1);
        x.cell(0, 0, 0, Cells.effect(13, 0));
        x.cell(0, 0, 1, Cells.effect(15, 1));
        x.play(3);
        Due.is("the last place", x.now(0), 2);
        x.play(1);
        Due.is("restart", x.now(0), 2);
    }

    private static void placesBehind() {
        ModulePlayer x = plain(ONE_PATTERN);
        x.poke(950, 2);
        x.poke(954, 1);
        x.poke(955, 255);
        x.poke(1079, 8);
        loads("two places", x, 1);
        ModulePlayer y = new ModulePlayer(8000);
        y.song(2, 0);
        y.place(0, 1);
        y.place(1, 2);
        y.place(2, 4);
        y.place(127, 5);
        Due.is("save()", y.save(), HEAD + 3 * PATTERN);
        int[] want = {1, 2, 0, 0};
        for (int i = 0; i < want.length; i++) {
            Due.is("written: place " + i, y.tape(952 + i), want[i]);
        }
        int[] mark = {0, 77, 46, 75, 46};
        for (int i = 0; i < mark.length; i++) {
            Due.is("written: tape(" + (1079 + i) + ")", y.tape(1079 + i), mark[i]);
        }
    }

    private static void patternsUpToGreatest() {
        for (int greatest = 0; greatest < 7; greatest++) {
            ModulePlayer x = new ModulePlayer(8000);
            x.song(3, 0);
            x.place(1, greatest);
            for (int p = 0; p <= greatest; p++) {
                x.cell(p, 0, 0, p + 1);
                x.cell(p, 63, 3, p + 11);
            }
            Due.is("save() up to " + greatest, x.save(), HEAD + (greatest + 1) * PATTERN);
            for (int p = 0; p <= greatest; p++) {
                Due.is("the first cell of " + p, x.tape(HEAD + p * PATTERN + 3), p + 1);
                Due.is("the last cell of " + p, x.tape(HEAD + (p + 1) * PATTERN - 1), p + 11);
            }
            Due.is("load() up to " + greatest, x.load(), greatest + 1);
            for (int p = 0; p <= greatest; p++) {
                Due.is("the first cell of " + p, x.cellOf(p, 0, 0), p + 1);
                Due.is("the last cell of " + p, x.cellOf(p, 63, 3), p + 11);
            }
        }
    }

    private static void cells() {
        int[][] bytesAndParts = {
            {0x1F, 0xFF, 0xFF, 0xFF, 4095, 31, 15, 255}, {0x0F, 0xFF, 0x00, 0x00, 4095, 0, 0, 0},
            {0x10, 0x00, 0x00, 0x00, 0, 16, 0, 0}, {0x00, 0x00, 0xF0, 0x00, 0, 15, 0, 0},
            {0x00, 0x00, 0x0F, 0x00, 0, 0, 15, 0}, {0x00, 0x00, 0x00, 0xFF, 0, 0, 0, 255},
            {0x01, 0x00, 0x00, 0x00, 256, 0, 0, 0}, {0x00, 0x01, 0x10, 0x01, 1, 1, 0, 1},
            {0x1A, 0xBC, 0x2D, 0xEF, 0xABC, 18, 13, 0xEF},
        };
        int[][] rowsAndChannels = {{0, 0}, {0, 3}, {1, 0}, {63, 3}};
        for (int[] w : bytesAndParts) {
            for (int[] rc : rowsAndChannels) {
                int at = HEAD + rc[0] * 16 + rc[1] * 4;
                ModulePlayer x = plain(ONE_PATTERN);
                ModulePlayer y = new ModulePlayer(8000);
                int cell = Cells.of(w[4], w[5], w[6], w[7]);
                y.cell(0, rc[0], rc[1], cell);
                y.save();
                for (int i = 0; i < 4; i++) {
                    x.poke(at + i, w[i]);
                    Due.is("written: tape(" + (at + i) + ")", y.tape(at + i), w[i]);
                }
                x.load();
                Due.is("read: " + at, x.cellOf(0, rc[0], rc[1]), cell);
            }
        }
    }

    private static void fiveBits() {
        int[][] firstThirdSample = {{0x10, 0xF0, 31}, {0x20, 0x00, 0}, {0x30, 0x10, 17}, {0xF0, 0xF0, 31}, {0xE0, 0x50, 5}};
        for (int[] w : firstThirdSample) {
            ModulePlayer x = plain(ONE_PATTERN);
            x.poke(HEAD, w[0]);
            x.poke(HEAD + 2, w[1]);
            loads("sample " + w[0] + " " + w[1], x, 1);
            Due.is("cellOf", x.cellOf(0, 0, 0), w[2] * 4096);
        }
    }

    private static void sampleBytes() {
        ModulePlayer x = plain(ONE_PATTERN + 6);
        pair(x, field(1, LENGTH), 1);
        pair(x, field(31, LENGTH), 2);
        int[] bytes = {0, 1, 127, 128, 129, 255};
        int[] values = {0, 1, 127, -128, -127, -1};
        for (int i = 0; i < 6; i++) {
            x.poke(ONE_PATTERN + i, bytes[i]);
        }
        loads("6 bytes", x, 1);
        x.cell(0, 0, 0, Cells.of(428, 1, 12, 1));
        x.cell(0, 0, 1, Cells.of(428, 31, 12, 1));
        x.play(1);
        for (int i = 0; i < 6; i++) {
            Due.is("value " + i, i < 2 ? x.frame(i, 0) : x.frame(i - 2, 1), values[i]);
        }
        ModulePlayer y = new ModulePlayer(8000);
        y.sample(31, 4, 0, 0);
        y.sample(1, 2, 0, 0);
        for (int i = 0; i < 6; i++) {
            y.wave(i < 2 ? 1 : 31, i < 2 ? i : i - 2, values[i]);
        }
        Due.is("save()", y.save(), ONE_PATTERN + 6);
        for (int i = 0; i < 6; i++) {
            Due.is("written: byte " + i, y.tape(ONE_PATTERN + i), bytes[i]);
        }
    }

    private static void inThisOrder() {
        refused("1083 bytes without a mark", 1083, x -> x.poke(1080, 0), 1, 1083);
        refused("1084 bytes without a mark", 1084, x -> {
            x.poke(1080, 0);
            x.poke(950, 0);
        }, 2, 1080);
        refused("1084 bytes without a song", 1084, x -> x.poke(950, 0), 3, 950);
        refused("1084 bytes", 1084, x -> { }, 4, 1084);
    }

    private static void tooShort() {
        for (int n : new int[] {1, 1080, 1082, 1083}) {
            refused(n + " bytes", n, x -> { }, 1, n);
        }
        Refused.load("no bytes", x -> x.end(0), 1, 0);
        refused("1084 bytes are enough for the head", 1084, x -> { }, 4, 1084);
    }

    private static void noMark() {
        for (int at = 1080; at < 1084; at++) {
            int wrong = at;
            refused("mark wrong from " + at, ONE_PATTERN, x -> {
                for (int i = wrong; i < 1084; i++) {
                    x.poke(i, 0);
                }
            }, 2, at);
            refused("mark one more at " + at, ONE_PATTERN, x -> x.poke(wrong, x.tape(wrong) + 1), 2, at);
            refused("mark one less at " + at, ONE_PATTERN, x -> x.poke(wrong, x.tape(wrong) - 1), 2, at);
        }
    }

    private static void byPlace() {
        int[] places = {
            field(1, LENGTH), field(1, TUNE), field(1, VOLUME), field(1, START), field(2, LENGTH), field(2, START),
            field(31, TUNE), field(31, START), 950,
        };
        for (int first = 0; first < places.length; first++) {
            int from = first;
            refused("faults from " + places[from] + " on", ONE_PATTERN, x -> {
                for (int i = places.length - 1; i >= from; i--) {
                    // Too much for each of these, also as the higher one of two bytes.
                    x.poke(places[i], 200);
                }
            }, 3, places[first]);
        }
        refused("a wrong place behind a right one", ONE_PATTERN, x -> {
            x.poke(950, 3);
            x.poke(953, 8);
            x.poke(954, 9);
        }, 3, 953);
    }

    private static void lengthAbove() {
        for (int s : new int[] {1, 17, 31}) {
            ModulePlayer x = plain(ONE_PATTERN + 2000);
            pair(x, field(s, LENGTH), 1000);
            loads("2000 of " + s, x, 1);
            for (int half : new int[] {1001, 1024, 32768, 65535}) {
                refused(2 * half + " of " + s, 9000, y -> pair(y, field(s, LENGTH), half), 3, field(s, LENGTH));
            }
        }
    }

    private static void lengthsAhead() {
        ModulePlayer x = plain(ONE_PATTERN + 4000);
        pair(x, field(3, LENGTH), 1000);
        pair(x, field(4, LENGTH), 999);
        pair(x, field(31, LENGTH), 1);
        loads("4000", x, 1);
        refused("4002 at the last", 9000, y -> {
            pair(y, field(3, LENGTH), 1000);
            pair(y, field(4, LENGTH), 999);
            pair(y, field(31, LENGTH), 2);
        }, 3, field(31, LENGTH));
        refused("4002 at the one that is too much", 9000, y -> {
            pair(y, field(3, LENGTH), 1000);
            pair(y, field(4, LENGTH), 1000);
            pair(y, field(5, LENGTH), 1);
            pair(y, field(31, LENGTH), 1);
        }, 3, field(5, LENGTH));
        refused("2000 behind 2002", 9000, y -> {
            pair(y, field(1, LENGTH), 1);
            pair(y, field(2, LENGTH), 1000);
            pair(y, field(3, LENGTH), 1000);
        }, 3, field(3, LENGTH));
    }

    private static void tuneAndVolumeAbove() {
        for (int s : new int[] {1, 16, 31}) {
            ModulePlayer x = plain(ONE_PATTERN);
            x.poke(field(s, TUNE), 15);
            x.poke(field(s, VOLUME), 64);
            loads("tune 15 and volume 64 of " + s, x, 1);
            for (int tune : new int[] {16, 128, 255}) {
                refused("tune " + tune, ONE_PATTERN, y -> y.poke(field(s, TUNE), tune), 3, field(s, TUNE));
            }
            for (int volume : new int[] {65, 128, 255}) {
                refused("volume " + volume, ONE_PATTERN, y -> y.poke(field(s, VOLUME), volume), 3, field(s, VOLUME));
            }
        }
    }

    private static void loopsAbove() {
        int[][] right = {{0, 0}, {0, 1}, {0, 2}, {0, 10}, {8, 2}, {7, 3}, {10, 0}, {10, 1}, {9, 1}};
        int[][] wrong = {{11, 0}, {11, 1}, {0, 11}, {9, 2}, {8, 3}, {10, 2}, {1, 10}, {65535, 0}, {0, 65535}, {65535, 65535}};
        for (int s : new int[] {1, 31}) {
            for (int[] r : right) {
                ModulePlayer x = plain(ONE_PATTERN + 20);
                pair(x, field(s, LENGTH), 10);
                pair(x, field(s, START), r[0]);
                pair(x, field(s, LOOP), r[1]);
                loads("halves " + r[0] + " and " + r[1] + " of 10", x, 1);
            }
            for (int[] w : wrong) {
                refused("halves " + w[0] + " and " + w[1] + " of 10", ONE_PATTERN + 20, x -> {
                    pair(x, field(s, LENGTH), 10);
                    pair(x, field(s, START), w[0]);
                    pair(x, field(s, LOOP), w[1]);
                }, 3, field(s, START));
            }
        }
        refused("a start without a length", ONE_PATTERN, x -> pair(x, field(5, START), 1), 3, field(5, START));
        refused("a loop without a length", ONE_PATTERN, x -> pair(x, field(5, LOOP), 2), 3, field(5, START));
        ModulePlayer x = plain(ONE_PATTERN);
        pair(x, field(5, LOOP), 1);
        loads("a loop of 2 without a length", x, 1);
    }

    private static void songLengths() {
        for (int n : new int[] {1, 2, 127, 128}) {
            ModulePlayer x = plain(ONE_PATTERN);
            x.poke(950, n);
            loads("a song of " + n, x, 1);
        }
        for (int n : new int[] {0, 129, 130, 255}) {
            refused("a song of " + n, ONE_PATTERN, x -> x.poke(950, n), 3, 950);
        }
    }

    private static void placesAbove() {
        refused("place 7 is right, but its patterns are missing", ONE_PATTERN, x -> x.poke(952, 7), 4, ONE_PATTERN);
        ModulePlayer x = plain(HEAD + 7 * PATTERN);
        x.poke(952, 6);
        loads("place 6", x, 7);
        for (int pattern : new int[] {8, 9, 128, 255}) {
            refused("first place " + pattern, 9000, y -> y.poke(952, pattern), 3, 952);
            refused("last place of 5 " + pattern, 9000, y -> {
                y.poke(950, 5);
                y.poke(956, pattern);
            }, 3, 956);
            refused("last place of 128 " + pattern, 9000, y -> {
                y.poke(950, 128);
                y.poke(1079, pattern);
            }, 3, 1079);
        }
        ModulePlayer behind = plain(ONE_PATTERN);
        behind.poke(950, 127);
        behind.poke(1079, 8);
        loads("behind the song of 127", behind, 1);
    }

    private static void tooFew() {
        for (int greatest = 0; greatest < 7; greatest++) {
            int pattern = greatest;
            int needed = HEAD + (greatest + 1) * PATTERN;
            ModulePlayer x = plain(needed);
            x.poke(952, greatest);
            loads("just the patterns", x, greatest + 1);
            refused("one less than " + needed, needed - 1, y -> y.poke(952, pattern), 4, needed - 1);
        }
        // No tape has room for PATTERN 7.
        refused("eight patterns", 9000, y -> y.poke(952, 7), 4, 9000);
        ModulePlayer x = plain(ONE_PATTERN + 1004);
        pair(x, field(1, LENGTH), 1);
        pair(x, field(2, LENGTH), 500);
        pair(x, field(31, LENGTH), 1);
        loads("just the samples", x, 1);
        for (int n : new int[] {ONE_PATTERN, ONE_PATTERN + 1002, ONE_PATTERN + 1003}) {
            refused(n + " bytes", n, y -> {
                pair(y, field(1, LENGTH), 1);
                pair(y, field(2, LENGTH), 500);
                pair(y, field(31, LENGTH), 1);
            }, 4, n);
        }
        ModulePlayer full = plain(9000);
        full.poke(952, 6);
        pair(full, field(1, LENGTH), 374);
        loads("just 9000 bytes", full, 7);
        refused("9002 needed of 9000", 9000, y -> {
            y.poke(952, 6);
            pair(y, field(1, LENGTH), 375);
        }, 4, 9000);
    }

    private static void bytesBehind() {
        for (int n : new int[] {ONE_PATTERN + 1, ONE_PATTERN + 2, 9000}) {
            ModulePlayer x = plain(n);
            x.poke(n - 1, 255);
            loads(n + " bytes", x, 1);
            Due.is("the tape stays", x.tape(n - 1), 255);
            Due.is("save()", x.save(), ONE_PATTERN);
            Due.is("they are gone", x.tape(n - 1), -1);
        }
    }

    private static void notNeeded() {
        ModulePlayer x = plain(HEAD + 3 * PATTERN);
        x.poke(952, 1);
        x.poke(953, 2);
        x.poke(HEAD + 2 * PATTERN + 3, 9);
        for (int p = 0; p < 8; p++) {
            x.cell(p, 0, 0, 77);
            x.cell(p, 63, 3, 78);
        }
        for (int i = 0; i < 128; i++) {
            x.place(i, 5);
        }
        loads("one place with pattern 1", x, 2);
        for (int p = 0; p < 8; p++) {
            Due.is("the first cell of " + p, x.cellOf(p, 0, 0), 0);
            Due.is("the last cell of " + p, x.cellOf(p, 63, 3), 0);
        }
        x.song(128, 0);
        Due.is("no place is above 1", x.save(), HEAD + 2 * PATTERN);
        Due.is("place 0", x.tape(952), 1);
        for (int i = 1; i < 128; i++) {
            Due.is("place " + i, x.tape(952 + i), 0);
        }
    }

    private static void moduleIsThat() {
        ModulePlayer x = Busy.player();
        plain(x, ONE_PATTERN);
        x.poke(HEAD + 3, 5);
        loads("another module", x, 1);
        Due.is("the tape stays", x.tape(HEAD + 3), 5);
        Due.is("the tape stays", x.tape(ONE_PATTERN), -1);
        Due.is("its cell", x.cellOf(0, 0, 0), 5);
        Due.is("no cell of the one before", x.cellOf(0, 0, 1), 0);
        Due.no("no sample of the one before", x.wave(1, 0, 0));
        Due.no("no sample of the one before", x.wave(31, 0, 0));
        int[] now = {-1, -1, -1, -1, 6, 125, 0, 17, 0};
        for (int what = 0; what < now.length; what++) {
            Due.is("now(" + what + ")", x.now(what), now[what]);
        }
        Due.is("save()", x.save(), ONE_PATTERN);
        Due.is("its song", x.tape(950), 1);
        Due.is("its restart", x.tape(951), 0);
        for (int s = 1; s <= 31; s++) {
            for (int i = LENGTH; i < 30; i++) {
                Due.is("sample " + s + " at " + i, x.tape(field(s, i)), 0);
            }
        }
    }

    /** 4000 bytes of other samples, ahead of or behind the older ones, which have 4000 too. */
    private static void otherSamples() {
        for (int first : new int[] {1, 30}) {
            ModulePlayer x = plain(ONE_PATTERN + 4000);
            x.sample(15, 2000, 1, 9);
            x.sample(16, 2000, 1, 9);
            x.wave(15, 0, 7);
            x.wave(16, 1999, 7);
            pair(x, field(first, LENGTH), 1000);
            pair(x, field(first + 1, LENGTH), 1000);
            x.poke(ONE_PATTERN, 3);
            x.poke(ONE_PATTERN + 3999, 4);
            loads("4000 bytes from sample " + first + " on", x, 1);
            Due.no("no older one", x.wave(15, 0, 0));
            Due.no("4002", x.sample(16, 2, 0, 0));
            x.end(0);
            Due.is("save()", x.save(), ONE_PATTERN + 4000);
            for (int s = 1; s <= 31; s++) {
                int half = s == first || s == first + 1 ? 1000 : 0;
                Due.is("half the length of " + s, pairAt(x, field(s, LENGTH)), half);
                Due.is("the volume of " + s, x.tape(field(s, VOLUME)), 0);
                Due.is("the tune of " + s, x.tape(field(s, TUNE)), 0);
            }
            Due.is("the first byte", x.tape(ONE_PATTERN), 3);
            Due.is("the last byte", x.tape(ONE_PATTERN + 3999), 4);
        }
    }

    private static void howManyPatterns() {
        for (int patterns = 1; patterns <= 7; patterns++) {
            ModulePlayer x = plain(HEAD + 7 * PATTERN);
            x.poke(950, 3);
            x.poke(953, patterns - 1);
            Due.is("load()", x.load(), patterns);
        }
        refused("eight patterns", 9000, x -> x.poke(952, 7), 4, 9000);
    }

    private static void latestLoad() {
        ModulePlayer x = new ModulePlayer(8000);
        Due.is("ahead of any: fault(0)", x.fault(0), 0);
        Due.is("ahead of any: fault(1)", x.fault(1), -1);
        x.load();
        Due.is("fault(0)", x.fault(0), 1);
        Due.is("fault(1)", x.fault(1), 0);
        plain(x, 1100);
        Due.is("the tape told: fault(0)", x.fault(0), 1);
        x.load();
        Due.is("fault(0)", x.fault(0), 4);
        Due.is("fault(1)", x.fault(1), 1100);
        plain(x, ONE_PATTERN);
        loads("right", x, 1);
        x.end(7);
        x.load();
        Due.is("fault(0)", x.fault(0), 1);
        Due.is("fault(1)", x.fault(1), 7);
        x.start();
        x.save();
        Due.is("behind start() and save(): fault(0)", x.fault(0), 1);
        Due.is("behind start() and save(): fault(1)", x.fault(1), 7);
        loads("what was saved", x, 1);
    }

    private static void otherFaults() {
        for (int what : new int[] {-1, 2, 3, Integer.MAX_VALUE, Integer.MIN_VALUE}) {
            Due.is("ahead of any: fault(" + what + ")", new ModulePlayer(8000).fault(what), -1);
            Refused.none("fault(" + what + ")", x -> x.fault(what));
        }
    }

    private static void tapeBecomes() {
        ModulePlayer x = new ModulePlayer(8000);
        x.poke(8999, 5);
        for (int i = 0; i < 60; i++) {
            x.poke(i, 255);
        }
        Due.is("save() to a longer tape", x.save(), ONE_PATTERN);
        Due.is("the byte behind", x.tape(ONE_PATTERN), -1);
        Due.is("the last byte", x.tape(ONE_PATTERN - 1), 0);
        for (int i = 0; i < 60; i++) {
            Due.is("tape(" + i + ")", x.tape(i), 0);
        }
        onAFullTape();
        Due.is("feed comes behind it", x.feed(0, 0, 0, 0, 0), ONE_PATTERN + 20);
        x.end(3);
        Due.is("save() to a shorter tape", x.save(), ONE_PATTERN);
        x.play(3);
        Due.is("save() while it plays", x.save(), ONE_PATTERN);
        Due.is("it plays on", x.play(1), 4);
    }

    /** Nothing of the older bytes is left, wherever they were. */
    private static void onAFullTape() {
        for (int from = 0; from < ONE_PATTERN; from += 50) {
            ModulePlayer x = new ModulePlayer(8000);
            for (int i = 0; i < 450; i++) {
                x.feed(-1, -1, -1, -1, -1);
            }
            Due.is("save() to a full tape", x.save(), ONE_PATTERN);
            for (int i = from; i < from + 50; i++) {
                int mark = i == 950 ? 1 : i == 1080 ? 77 : i == 1082 ? 75 : i == 1081 || i == 1083 ? 46 : 0;
                Due.is("tape(" + i + ")", x.tape(i), i < ONE_PATTERN ? mark : -1);
            }
        }
    }

    private static void moreThan9000() {
        ModulePlayer x = new ModulePlayer(8000);
        x.place(0, 6);
        x.sample(1, 700, 0, 0);
        x.sample(31, 48, 0, 0);
        Due.is("save() of 9000", x.save(), 9000);
        Due.is("load() of 9000", x.load(), 7);
        Refused.none("save() of 9002", y -> {
            y.place(0, 6);
            y.sample(1, 700, 0, 0);
            y.sample(31, 50, 0, 0);
        }, y -> y.save());
        Refused.none("save() of eight patterns", y -> y.place(2, 7), y -> y.save());
    }
}
