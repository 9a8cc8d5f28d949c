/** Terms 2 and promises 16 start, 18 play and 19 now: where PLAYING goes, sentence by sentence, at its edges. */
public final class EdgesOfPlayingTest {
    private static final int MAX = Integer.MAX_VALUE;
    private static final int MIN = Integer.MIN_VALUE;
    private static final int JUMP = 11;
    private static final int BREAK = 13;
    private static final int MORE = 14;
    private static final int PACE = 15;

    public static void main(String[] args) {
        begins();
        rows();
        turns();
        calls();
        Due.end();
    }

    private static void begins() {
        Sentence.holds("At the begin (of a PLAYER, behind a module that came, behind start()) SPEED is 6, TEMPO 125",
                EdgesOfPlayingTest::atTheBegin);
        Sentence.holds("the next ROW is ROW 0 of place 0 of the SONG, all CHANNELS 0 .. 3 are silent",
                EdgesOfPlayingTest::firstRow);
        Sentence.holds("all that they keep is 0", EdgesOfPlayingTest::keepNothing);
        Sentence.holds("no ROW was begun, TICKS are 0.", EdgesOfPlayingTest::noRowWasBegun);
    }

    private static void rows() {
        Sentence.holds("if the last one was the last of its ROW (or there was none), the next ROW begins, its TICK is 0;"
                + " else the TICK of the ROW is one more.", EdgesOfPlayingTest::ticksOfRows);
        Sentence.holds("Then the CELLS' acts for that TICK, by CHANNELS; then it is mixed.",
                EdgesOfPlayingTest::actsThenMixed);
        Sentence.holds("A ROW has SPEED TICKS times (1 and its DELAY); they are counted on from 0.",
                EdgesOfPlayingTest::delays);
        Sentence.holds("its CELLS are those of its PATTERN at its place.", EdgesOfPlayingTest::cellsOfPlaces);
        Sentence.holds("If, as it begins, no CHANNEL's LOOPLEFT is above 0", EdgesOfPlayingTest::againWhileLooping);
        Sentence.holds("and that place and ROW were begun before, AGAIN is one more.", EdgesOfPlayingTest::again);
        Sentence.holds("else the ROW one more; behind ROW 63 ROW 0 of the next place.", EdgesOfPlayingTest::rowOneMore);
        Sentence.holds("What is told of a module while it is played holds from the next ROW on",
                EdgesOfPlayingTest::toldWhilePlayed);
        Sentence.holds("(SAMPLES at once)", EdgesOfPlayingTest::samplesAtOnce);
    }

    private static void turns() {
        Sentence.holds("by LOOP (E6): as told there; else if a JUMP or BREAK was told in it",
                EdgesOfPlayingTest::loopGoesFirst);
        Sentence.holds("place: of the JUMP (as many as the SONG has or more: 0)", EdgesOfPlayingTest::jumps);
        Sentence.holds("(as many as the SONG has or more: 0), else one more", EdgesOfPlayingTest::breakOnePlaceMore);
        Sentence.holds("ROW: of the BREAK, else 0", EdgesOfPlayingTest::rowOfTheBreak);
        Sentence.holds("A place behind the SONG's last one is RESTART, if that is in the SONG, else 0.",
                EdgesOfPlayingTest::restarts);
        Sentence.holds("Of several JUMPS, BREAKS or LOOPS in a ROW the last CHANNEL's is meant.",
                EdgesOfPlayingTest::lastChannel);
    }

    private static void calls() {
        Sentence.holds("`void start()`: PLAYING is at its begin.", EdgesOfPlayingTest::starts);
        Sentence.holds("n TICKS (0 .. 400) are played: TICKS since the begin", EdgesOfPlayingTest::plays);
        Sentence.holds("TICKS since the begin; NONE for another n.", EdgesOfPlayingTest::playRefuses);
        Sentence.holds("Of the latest TICK: 0 its place in the SONG, 1 its ROW, 2 which TICK of the ROW"
                + " (those of DELAYED runs go on counting), 3 FRAMES, 4 SPEED, 5 TEMPO, 6 AGAIN, 7 SUM, 8 TICKS.",
                EdgesOfPlayingTest::nowOfTheLatest);
        Sentence.holds("8 TICKS. NONE for others", EdgesOfPlayingTest::nowOfOthers);
        Sentence.holds("ahead of any TICK 0, 1, 2, 3 are NONE.", EdgesOfPlayingTest::nowAheadOfAny);
    }

    /** SPEED 1, so that each TICK is a ROW. */
    private static ModulePlayer quick() {
        ModulePlayer x = new ModulePlayer(2000);
        x.cell(0, 0, 3, Cells.effect(PACE, 1));
        return x;
    }

    private static void at(String what, ModulePlayer x, int place, int row) {
        Due.is(what + ": place", x.now(0), place);
        Due.is(what + ": row", x.now(1), row);
    }

    /** A TICK for each place and ROW. */
    private static void goes(String what, ModulePlayer x, int... placesAndRows) {
        for (int i = 0; i < placesAndRows.length; i += 2) {
            x.play(1);
            at(what, x, placesAndRows[i], placesAndRows[i + 1]);
        }
    }

    /** Players at the begin: a new one, one behind load() and one behind start(), with the same empty module. */
    private static ModulePlayer[] beginners() {
        ModulePlayer loaded = Busy.player();
        loaded.play(142);
        at("in the midst", loaded, 2, 0);
        ModulePlayer empty = new ModulePlayer(2000);
        empty.save();
        int[] head = {950, 1080, 1081, 1082, 1083};
        loaded.end(0);
        loaded.poke(2107, 0);
        for (int at : head) {
            loaded.poke(at, empty.tape(at));
        }
        Due.is("load()", loaded.load(), 1);
        loaded.mute(2, false);
        ModulePlayer started = Busy.player();
        started.play(142);
        Due.is("again in the midst", started.now(6), 10);
        for (int s : new int[] {1, 31}) {
            started.sample(s, 0, 0, 0);
        }
        for (int row = 0; row < 8; row++) {
            for (int c = 0; c < 4; c++) {
                started.cell(0, row, c, 0);
            }
        }
        started.song(1, 0);
        started.mute(2, false);
        started.start();
        return new ModulePlayer[] {new ModulePlayer(2000), loaded, started};
    }

    private static void atTheBegin() {
        int[] now = {-1, -1, -1, -1, 6, 125, 0, 17, 0};
        for (ModulePlayer x : beginners()) {
            for (int what = 0; what < now.length; what++) {
                Due.is("now(" + what + ")", x.now(what), now[what]);
            }
            x.play(1);
            Due.is("the first tick has speed 6", x.now(4), 6);
            Due.is("the first tick has tempo 125", x.now(5), 125);
            x.play(5);
            at("tick 5", x, 0, 0);
            x.play(1);
            at("tick 6", x, 0, 1);
        }
    }

    private static void firstRow() {
        for (ModulePlayer x : beginners()) {
            for (int c = 0; c < 4; c++) {
                for (int what = 0; what < 14; what++) {
                    Due.is("channel(" + c + ", " + what + ")", x.channel(c, what), 0);
                }
            }
            x.place(0, 3);
            x.cell(3, 0, 2, Cells.note(300, 0));
            x.play(1);
            at("the first tick", x, 0, 0);
            Due.is("its tick", x.now(2), 0);
            Due.is("its cell", x.channel(2, 2), 300);
            Due.is("silence", x.frame(0, 0), 0);
        }
    }

    /** All CHANNELS are told the same. */
    private static void tellRow(ModulePlayer x, int row, int cell) {
        for (int c = 0; c < 4; c++) {
            x.cell(0, row, c, cell);
        }
    }

    /** A player whose CHANNELS keep something of all that they can keep. */
    private static ModulePlayer keeper() {
        ModulePlayer x = new ModulePlayer(8000);
        x.sample(1, 2000, 0, 40);
        int[] cells = {Cells.of(400, 1, 9, 2), Cells.of(300, 0, 3, 9), Cells.effect(4, 0x8F), Cells.effect(7, 0x84),
            Cells.effect(MORE, 0x42), Cells.effect(MORE, 0x72), Cells.effect(MORE, 0x60), Cells.effect(MORE, 0x63)};
        for (int row = 0; row < cells.length; row++) {
            tellRow(x, row, cells[row]);
        }
        x.play(48);
        Due.is("loopleft", x.channel(3, 13), 3);
        return x;
    }

    private static void keepNothing() {
        for (boolean loads : new boolean[] {false, true}) {
            for (int number : new int[] {0x80, 0x08}) {
                ModulePlayer x = keeper();
                if (loads) {
                    x.save();
                    x.load();
                } else {
                    x.start();
                }
                keptNothing(x, number);
            }
        }
    }

    /** What was kept would be heard, since each CELL tells only one of two numbers, or none. */
    private static void keptNothing(ModulePlayer x, int number) {
        int[] cells = {Cells.of(856, 1, 9, 0), Cells.of(800, 0, 3, 0), Cells.effect(4, number), Cells.effect(7, number),
            Cells.of(856, 0, 4, 0x8F), Cells.of(856, 0, 7, 0x84), 0, 0};
        for (int row = 0; row < cells.length; row++) {
            tellRow(x, row, cells[row]);
        }
        for (int c = 0; c < 4; c++) {
            Due.is("looprow", x.channel(c, 12), 0);
            Due.is("loopleft", x.channel(c, 13), 0);
        }
        x.play(1);
        // A TICK of PERIOD 856 takes 82.87 bytes.
        each("offset", x, 3, 82);
        x.play(11);
        each("porta", x, 2, 856);
        x.play(3);
        each("vib", x, 5, 856);
        each("vib", x, 10, number == 0x80 ? 16 : 0);
        x.play(6);
        each("trem", x, 6, 40);
        each("trem", x, 11, number == 0x80 ? 16 : 0);
        x.play(6);
        // At 8 the WAVE of form 0 is 191: 15 times it by 128, 4 times it by 64.
        each("vibform", x, 5, 878);
        x.play(6);
        each("tremform", x, 6, 51);
        x.play(10);
        at("no loop and no delay", x, 0, 7);
    }

    private static void each(String name, ModulePlayer x, int what, int want) {
        for (int c = 0; c < 4; c++) {
            Due.is(name + " of " + c, x.channel(c, what), want);
        }
    }

    private static void noRowWasBegun() {
        for (ModulePlayer x : beginners()) {
            Due.is("ticks", x.now(8), 0);
            x.play(24);
            at("row 3", x, 0, 3);
            Due.is("again", x.now(6), 0);
        }
    }

    private static void ticksOfRows() {
        for (int speed : new int[] {1, 2, 6, 31}) {
            ModulePlayer x = new ModulePlayer(2000);
            x.cell(0, 0, 0, Cells.effect(PACE, speed));
            for (int tick = 0; tick < 3 * speed; tick++) {
                x.play(1);
                at("speed " + speed, x, 0, tick / speed);
                Due.is("tick", x.now(2), tick % speed);
            }
        }
    }

    private static void actsThenMixed() {
        ModulePlayer x = new ModulePlayer(2000);
        x.sample(1, 2, 0, 1);
        x.wave(1, 0, 9);
        x.cell(0, 0, 0, Cells.note(428, 1));
        x.cell(0, 0, 2, Cells.effect(PACE, 50));
        x.cell(0, 0, 3, Cells.effect(PACE, 100));
        x.cell(0, 1, 0, Cells.of(0, 0, MORE, 0x95));
        x.play(1);
        Due.is("the last channel's tempo", x.now(5), 100);
        Due.is("the frames are of the new tempo", x.now(3), 50);
        Due.is("the note is heard in its tick", x.frame(0, 0), 9);
        x.play(6);
        Due.is("on tick 0", x.frame(0, 0), 9);
        x.play(4);
        Due.is("on tick 4", x.frame(0, 0), 0);
        x.play(1);
        Due.is("on tick 5", x.frame(0, 0), 9);
    }

    private static void delays() {
        int[][] speedsAndDelays = {{1, 0}, {1, 1}, {1, 15}, {3, 0}, {3, 2}, {6, 1}, {31, 15}};
        for (int[] w : speedsAndDelays) {
            ModulePlayer x = new ModulePlayer(2000);
            x.cell(0, 0, 0, Cells.effect(PACE, w[0]));
            x.cell(0, 1, 2, Cells.effect(MORE, 0xE0 + w[1]));
            x.play(w[0] + 1);
            at("the delayed row", x, 0, 1);
            Due.is("its first tick", x.now(2), 0);
            int last = w[0] * (1 + w[1]) - 1;
            x.play(Math.min(last, 400));
            x.play(last - Math.min(last, 400));
            at("the delayed row", x, 0, 1);
            Due.is("its last tick", x.now(2), last);
            x.play(1);
            at("the next row", x, 0, 2);
            x.play(w[0] - 1);
            at("the next row is not delayed", x, 0, 2);
            x.play(1);
            at("the row behind it", x, 0, 3);
        }
        ModulePlayer x = new ModulePlayer(2000);
        x.cell(0, 0, 0, Cells.effect(MORE, 0xE1));
        x.cell(0, 0, 1, Cells.effect(PACE, 2));
        x.play(4);
        at("the row's own speed counts", x, 0, 0);
        x.play(1);
        at("the row's own speed counts", x, 0, 1);
    }

    private static void cellsOfPlaces() {
        ModulePlayer x = quick();
        x.song(128, 0);
        x.place(1, 7);
        x.place(127, 2);
        x.cell(0, 0, 0, Cells.of(201, 0, BREAK, 0x63));
        x.cell(7, 63, 0, Cells.of(202, 0, JUMP, 127));
        x.cell(2, 0, 0, Cells.note(203, 0));
        x.cell(2, 63, 0, Cells.note(204, 0));
        x.play(1);
        Due.is("pattern 0 at place 0", x.channel(0, 2), 201);
        x.play(1);
        Due.is("pattern 7 at place 1", x.channel(0, 2), 202);
        x.play(1);
        Due.is("pattern 2 at place 127", x.channel(0, 2), 203);
        x.play(63);
        Due.is("its last row", x.channel(0, 2), 204);
    }

    private static void againWhileLooping() {
        for (int c = 0; c < 4; c++) {
            // SPEED 1 stands at ROW 0, and ROW 1 is told once more, first looping, then by a JUMP.
            ModulePlayer x = new ModulePlayer(2000);
            x.cell(0, 0, (c + 1) % 4, Cells.effect(PACE, 1));
            x.cell(0, 1, c, Cells.effect(MORE, 0x60));
            x.cell(0, 2, c, Cells.effect(MORE, 0x61));
            x.cell(0, 3, c, Cells.effect(JUMP, 0));
            goes("channel " + c, x, 0, 0, 0, 1, 0, 2);
            Due.is("loopleft", x.channel(c, 13), 1);
            goes("it loops", x, 0, 1, 0, 2);
            Due.is("again while it loops", x.now(6), 0);
            Due.is("loopleft", x.channel(c, 13), 0);
            goes("behind it", x, 0, 3, 0, 0);
            Due.is("again at row 0", x.now(6), 1);
            goes("once more", x, 0, 1, 0, 2, 0, 1);
            Due.is("again, but for the loop", x.now(6), 3);
        }
    }

    private static void again() {
        ModulePlayer x = quick();
        x.song(3, 1);
        x.cell(0, 1, 0, Cells.effect(BREAK, 0));
        goes("new places of the same pattern", x, 0, 0, 0, 1, 1, 0, 1, 1, 2, 0, 2, 1);
        Due.is("again", x.now(6), 0);
        goes("a place once more", x, 1, 0);
        Due.is("again", x.now(6), 1);
        goes("its other row", x, 1, 1);
        Due.is("again", x.now(6), 2);
        // A ROW that was begun while a CHANNEL looped was begun, too.
        ModulePlayer y = quick();
        y.cell(0, 0, 0, Cells.effect(MORE, 0x61));
        y.cell(0, 0, 1, Cells.effect(MORE, 0x60));
        y.cell(0, 5, 2, Cells.effect(BREAK, 0x05));
        y.play(1);
        y.cell(0, 0, 0, Cells.effect(BREAK, 0x05));
        goes("row 5 begins while it loops", y, 0, 0, 0, 5);
        Due.is("loopleft", y.channel(0, 13), 1);
        y.cell(0, 5, 0, Cells.effect(MORE, 0x61));
        y.cell(0, 5, 2, Cells.effect(BREAK, 0x05));
        goes("its loop ends", y, 0, 5);
        Due.is("loopleft", y.channel(0, 13), 0);
        Due.is("again", y.now(6), 0);
        y.cell(0, 5, 0, 0);
        goes("row 5 once more", y, 0, 5);
        Due.is("again", y.now(6), 1);
        // All 64 ROWS of place 127 are told apart.
        ModulePlayer z = quick();
        z.song(128, 127);
        z.place(127, 1);
        z.cell(0, 0, 0, Cells.effect(JUMP, 127));
        z.play(1 + 64);
        at("the last row of all", z, 127, 63);
        Due.is("again", z.now(6), 0);
        z.play(1);
        at("restart", z, 127, 0);
        Due.is("again", z.now(6), 1);
        z.play(63);
        Due.is("again", z.now(6), 64);
    }

    private static void rowOneMore() {
        ModulePlayer x = quick();
        x.song(3, 0);
        x.play(63);
        at("row 62", x, 0, 62);
        goes("row 63, and the next places", x, 0, 63, 1, 0, 1, 1);
        x.play(62);
        goes("row 0 of place 2", x, 2, 0);
        x.play(63);
        goes("the song is over", x, 0, 0);
        // A JUMP of an earlier ROW is over with it.
        ModulePlayer y = quick();
        y.song(3, 0);
        y.cell(0, 0, 0, Cells.effect(JUMP, 1));
        y.place(1, 1);
        goes("a jump is told once", y, 0, 0, 1, 0, 1, 1, 1, 2);
        ModulePlayer z = quick();
        z.cell(0, 2, 0, Cells.effect(MORE, 0x61));
        z.cell(0, 0, 1, Cells.effect(MORE, 0x60));
        goes("a loop is told once", z, 0, 0, 0, 1, 0, 2, 0, 0, 0, 1, 0, 2, 0, 3);
    }

    private static void toldWhilePlayed() {
        ModulePlayer x = new ModulePlayer(2000);
        x.cell(0, 0, 0, Cells.of(400, 0, 2, 1));
        x.play(1);
        x.cell(0, 0, 0, Cells.effect(2, 100));
        x.cell(0, 1, 0, Cells.effect(2, 10));
        x.play(1);
        Due.is("a cell told in its row", x.channel(0, 2), 401);
        x.place(0, 1);
        x.cell(1, 1, 0, Cells.effect(2, 30));
        x.play(4);
        Due.is("a place told in its row", x.channel(0, 2), 405);
        x.play(2);
        Due.is("the next row is of the new pattern", x.channel(0, 2), 435);
        x.place(0, 0);
        x.play(4);
        Due.is("to its end", x.channel(0, 2), 555);
        // Behind the last TICK of a ROW what is told holds for the next one at once.
        x.cell(0, 2, 0, Cells.note(777, 0));
        x.play(1);
        at("the next row", x, 0, 2);
        Due.is("a cell told ahead of its row", x.channel(0, 2), 777);
        ModulePlayer y = quick();
        y.cell(0, 1, 0, Cells.effect(BREAK, 0));
        y.play(2);
        y.song(2, 0);
        goes("a song told ahead of the next row", y, 1, 0, 1, 1);
        y.song(2, 1);
        goes("a restart told ahead of the next row", y, 1, 0, 1, 1);
        y.song(1, 0);
        goes("a shorter song", y, 0, 0);
        ModulePlayer z = new ModulePlayer(2000);
        z.song(3, 0);
        z.cell(0, 0, 0, Cells.effect(JUMP, 2));
        z.play(7);
        z.song(1, 0);
        at("a shorter song leaves the row", z, 2, 0);
        z.play(5);
        at("up to its last tick", z, 2, 0);
    }

    private static void samplesAtOnce() {
        ModulePlayer x = new ModulePlayer(2000);
        x.sample(1, 2000, 0, 1);
        x.cell(0, 0, 0, Cells.note(856, 1));
        x.play(1);
        // A TICK takes 82.87 bytes.
        x.wave(1, 82, 55);
        x.play(1);
        Due.is("a byte", x.frame(0, 0), 55);
        x.loop(1, 0, 100);
        x.play(1);
        Due.is("a loop", x.channel(0, 3), 48);
        x.sample(1, 48, 3, 9);
        x.play(1);
        Due.is("a length that ends ahead of its place", x.channel(0, 4), 0);
        Due.is("its place", x.channel(0, 3), 48);
        Due.is("it adds nothing", x.frame(0, 0), 0);
        Due.is("the channel's volume", x.channel(0, 1), 1);
        Due.is("the channel's tune", x.channel(0, 7), 0);
    }

    private static void loopGoesFirst() {
        ModulePlayer x = quick();
        x.song(3, 0);
        x.cell(0, 1, 0, Cells.effect(MORE, 0x61));
        x.cell(0, 1, 1, Cells.effect(JUMP, 2));
        x.cell(0, 1, 2, Cells.effect(BREAK, 0x07));
        goes("the loop, then the jump and break", x, 0, 0, 0, 1, 0, 0, 0, 1, 2, 7);
        ModulePlayer y = quick();
        y.song(3, 0);
        y.cell(0, 63, 0, Cells.effect(MORE, 0x61));
        y.cell(0, 62, 0, Cells.effect(MORE, 0x60));
        y.play(64);
        goes("the loop of row 63 stays in its place", y, 0, 62, 0, 63, 1, 0);
    }

    private static void jumps() {
        int[][] songsToldPlaces = {
            {1, 0, 0}, {1, 1, 0}, {4, 0, 0}, {4, 3, 3}, {4, 4, 0}, {4, 5, 0}, {4, 255, 0},
            {128, 127, 127}, {128, 128, 0}, {128, 255, 0},
        };
        for (int[] w : songsToldPlaces) {
            ModulePlayer x = quick();
            // RESTART is not asked for a JUMP.
            x.song(w[0], w[0] - 1);
            x.cell(0, 2, 1, Cells.effect(JUMP, w[1]));
            x.play(3);
            goes("jump to " + w[1] + " of " + w[0], x, w[2], 0, w[2], 1);
        }
    }

    private static void breakOnePlaceMore() {
        ModulePlayer x = quick();
        x.song(3, 0);
        x.cell(0, 1, 0, Cells.effect(BREAK, 0x01));
        goes("breaks", x, 0, 0, 0, 1, 1, 1, 2, 1, 0, 1);
        ModulePlayer y = quick();
        y.song(3, 0);
        y.cell(0, 1, 0, Cells.effect(BREAK, 0x09));
        y.cell(0, 1, 1, Cells.effect(JUMP, 2));
        goes("a jump and a break", y, 0, 0, 0, 1, 2, 9);
        ModulePlayer z = quick();
        z.song(3, 0);
        z.cell(0, 1, 0, Cells.effect(JUMP, 0));
        z.cell(0, 1, 1, Cells.effect(BREAK, 0x09));
        goes("a jump to 0 and a break", z, 0, 0, 0, 1, 0, 9);
        ModulePlayer last = quick();
        last.song(2, 0);
        last.cell(0, 63, 1, Cells.effect(BREAK, 0x09));
        last.play(64);
        goes("a break in row 63", last, 1, 9);
    }

    private static void rowOfTheBreak() {
        ModulePlayer x = quick();
        x.song(2, 0);
        x.cell(0, 1, 0, Cells.effect(BREAK, 0x63));
        goes("to row 63", x, 0, 0, 0, 1, 1, 63, 0, 0);
        ModulePlayer y = quick();
        y.song(2, 0);
        y.cell(0, 9, 0, Cells.effect(JUMP, 1));
        y.play(10);
        goes("a jump alone goes to row 0", y, 1, 0);
        ModulePlayer z = quick();
        z.song(2, 0);
        z.cell(0, 9, 0, Cells.effect(JUMP, 7));
        z.cell(0, 9, 3, Cells.effect(BREAK, 0x30));
        z.play(10);
        goes("also with a jump that is too far", z, 0, 30);
    }

    private static void restarts() {
        int[][] songsRestartsPlaces = {
            {1, 0, 0}, {1, 1, 0}, {3, 0, 0}, {3, 1, 1}, {3, 2, 2}, {3, 3, 0}, {3, 4, 0}, {3, 255, 0},
            {128, 127, 127}, {128, 128, 0}, {128, 255, 0},
        };
        for (int[] w : songsRestartsPlaces) {
            ModulePlayer x = quick();
            x.song(w[0], w[1]);
            x.cell(0, 0, 0, Cells.effect(JUMP, w[0] - 1));
            x.place(w[0] - 1, 1);
            x.cell(1, 0, 0, Cells.effect(BREAK, 0x60));
            x.cell(1, 0, 3, Cells.effect(PACE, 1));
            x.play(w[0] == 1 ? 1 : 2);
            at("the last place", x, w[0] - 1, 0);
            goes("by a break", x, w[2], 60);
            ModulePlayer y = quick();
            y.song(w[0], w[1]);
            y.cell(0, 0, 0, Cells.effect(JUMP, w[0] - 1));
            y.place(w[0] - 1, 1);
            y.cell(1, 0, 3, Cells.effect(PACE, 1));
            y.play(w[0] == 1 ? 64 : 65);
            at("the last row of the last place", y, w[0] - 1, 63);
            goes("behind it", y, w[2], 0);
        }
    }

    private static void lastChannel() {
        for (int first = 0; first < 3; first++) {
            for (int last = first + 1; last < 4; last++) {
                ModulePlayer x = quick();
                x.song(9, 0);
                x.cell(0, 1, first, Cells.effect(JUMP, 3));
                x.cell(0, 1, last, Cells.effect(JUMP, 2));
                x.play(2);
                goes("jumps of " + first + " and " + last, x, 2, 0);
                ModulePlayer y = quick();
                y.song(9, 0);
                y.cell(0, 1, first, Cells.effect(BREAK, 4));
                y.cell(0, 1, last, Cells.effect(BREAK, 0));
                y.play(2);
                goes("breaks of " + first + " and " + last, y, 1, 0);
                ModulePlayer z = quick();
                z.cell(0, 2, first, Cells.effect(MORE, 0x60));
                z.cell(0, 1, last, Cells.effect(MORE, 0x60));
                z.cell(0, 3, first, Cells.effect(MORE, 0x61));
                z.cell(0, 3, last, Cells.effect(MORE, 0x61));
                z.play(4);
                goes("loops of " + first + " and " + last, z, 0, 1);
                // A LOOPLEFT that is 0 then is no LOOP: the first one's is the last.
                ModulePlayer one = quick();
                one.cell(0, 1, first, Cells.effect(MORE, 0x60));
                one.cell(0, 2, last, Cells.effect(MORE, 0x60));
                one.cell(0, 3, first, Cells.effect(MORE, 0x62));
                one.cell(0, 3, last, Cells.effect(MORE, 0x61));
                one.play(6);
                at("the other's loop is over", one, 0, 3);
                goes("the loop of " + first, one, 0, 1);
            }
        }
    }

    private static void starts() {
        ModulePlayer x = Busy.player();
        int cell = x.cellOf(0, 0, 0);
        x.start();
        Due.is("ticks", x.now(8), 0);
        Due.is("the module stays", x.cellOf(0, 0, 0), cell);
        Due.is("the tape stays", x.tape(4300), 9);
        Due.is("the fault stays", x.fault(1), 950);
        Due.is("play(1)", x.play(1), 1);
        at("the first tick", x, 0, 0);
        ModulePlayer twice = Busy.player();
        twice.start();
        twice.start();
        twice.play(1);
        Due.is("twice is as once", twice.now(7), x.now(7));
    }

    private static void plays() {
        ModulePlayer x = quick();
        Due.is("play(0)", x.play(0), 0);
        Due.is("now(8)", x.now(8), 0);
        Due.is("now(0)", x.now(0), -1);
        Due.is("play(1)", x.play(1), 1);
        Due.is("play(0)", x.play(0), 1);
        at("play(0) plays none", x, 0, 0);
        Due.is("play(399)", x.play(399), 400);
        at("399 more rows", x, 0, 399 % 64);
        Due.is("play(400)", x.play(400), 800);
        at("400 more rows", x, 0, 799 % 64);
        x.start();
        Due.is("since the begin", x.play(2), 2);
        // As many single ones are the same.
        ModulePlayer one = Busy.player();
        ModulePlayer all = Busy.player();
        for (int i = 0; i < 400; i++) {
            one.play(1);
        }
        all.play(400);
        for (int what = 0; what < 9; what++) {
            Due.is("now(" + what + ")", all.now(what), one.now(what));
        }
    }

    private static void playRefuses() {
        for (int n : new int[] {-1, 401, 402, MAX, MIN}) {
            Refused.none("play(" + n + ")", x -> x.play(n));
            ModulePlayer x = new ModulePlayer(2000);
            Due.is("play(" + n + ")", x.play(n), -1);
            Due.is("now(0)", x.now(0), -1);
        }
    }

    private static void nowOfTheLatest() {
        ModulePlayer x = new ModulePlayer(2000);
        x.song(2, 1);
        x.place(1, 1);
        x.cell(0, 0, 0, Cells.effect(BREAK, 0x12));
        x.cell(0, 0, 1, Cells.effect(PACE, 2));
        x.cell(1, 12, 2, Cells.effect(MORE, 0xE1));
        x.cell(1, 12, 3, Cells.effect(PACE, 99));
        x.cell(1, 13, 3, Cells.effect(JUMP, 0));
        x.play(2 + 4);
        int[] want = {1, 12, 3, 50, 2, 99, 0};
        for (int what = 0; what < want.length; what++) {
            Due.is("now(" + what + ")", x.now(what), want[what]);
        }
        // FRAMES of silence: 31 times it twice for each of 2 times 40 and 4 times 50 of them.
        int sum = 17;
        for (int i = 0; i < 2 * (2 * 40 + 4 * 50); i++) {
            sum *= 31;
        }
        Due.is("now(7)", x.now(7), sum);
        Due.is("now(8)", x.now(8), 6);
        x.play(3);
        Due.is("again", x.now(6), 1);
        at("once more", x, 0, 0);
    }

    private static void nowOfOthers() {
        for (int what : new int[] {-1, 9, 10, MAX, MIN}) {
            Due.is("ahead of any: now(" + what + ")", new ModulePlayer(2000).now(what), -1);
            Refused.none("now(" + what + ")", x -> x.now(what));
        }
    }

    private static void nowAheadOfAny() {
        ModulePlayer x = new ModulePlayer(2000);
        int[] want = {-1, -1, -1, -1, 6, 125, 0, 17, 0};
        for (int round = 0; round < 2; round++) {
            for (int what = 0; what < want.length; what++) {
                Due.is("now(" + what + ")", x.now(what), want[what]);
            }
            // What is told, or no TICK, is no TICK.
            x.play(0);
            x.play(401);
            x.song(3, 1);
        }
        x.play(1);
        int[] first = {0, 0, 0, 40};
        for (int what = 0; what < first.length; what++) {
            Due.is("now(" + what + ") of the first", x.now(what), first[what]);
        }
    }
}
