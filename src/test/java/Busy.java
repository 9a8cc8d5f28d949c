import java.util.ArrayList;
import java.util.List;
import java.util.function.BiConsumer;
import java.util.function.Consumer;

/** A player in the midst of a song, and all that can be asked of it. */
final class Busy {
    /** With those that set the player up, an object stays below the 512 calls that are promised. */
    private static final int ASKED_AT_ONCE = 300;

    private Busy() { }

    static ModulePlayer player() {
        ModulePlayer x = new ModulePlayer(2000);
        tellSamples(x);
        tellSong(x);
        x.save();
        // A fault, so that one that is forgotten is seen.
        x.poke(950, 0);
        x.load();
        x.poke(4300, 9);
        x.mute(2, true);
        x.play(20);
        return x;
    }

    private static void tellSamples(ModulePlayer x) {
        x.sample(1, 8, 2, 50);
        x.wave(1, 0, 100);
        x.wave(1, 3, -128);
        x.wave(1, 7, 127);
        x.loop(1, 2, 6);
        x.sample(31, 40, -3, 64);
        x.wave(31, 0, -7);
        x.wave(31, 39, 9);
        x.loop(31, 10, 2);
    }

    private static void tellSong(ModulePlayer x) {
        x.song(3, 1);
        x.place(1, 1);
        x.place(2, 2);
        x.place(5, 4);
        x.place(127, 3);
        int[][] cells = {
            {0, 0, 0, 428, 1, 4, 0x83}, {0, 0, 1, 300, 31, 7, 0x64}, {0, 0, 2, 320, 1, 9, 0}, {0, 0, 3, 0, 0, 15, 4},
            {0, 1, 0, 0, 0, 14, 0x42}, {0, 1, 1, 350, 0, 3, 5}, {0, 1, 2, 0, 0, 14, 0x60}, {0, 1, 3, 0, 0, 15, 100},
            {0, 2, 0, 0, 0, 4, 0}, {0, 2, 1, 0, 0, 3, 0}, {0, 2, 2, 0, 0, 14, 0x72}, {0, 2, 3, 0, 0, 14, 0xE1},
            {0, 3, 2, 0, 0, 14, 0x62}, {0, 4, 0, 0, 0, 0, 0x37}, {0, 4, 1, 0, 0, 5, 0x10}, {0, 4, 3, 200, 31, 0, 0},
            {0, 5, 0, 0, 0, 13, 5}, {1, 5, 0, 300, 1, 1, 3}, {1, 5, 2, 0, 0, 7, 0}, {1, 7, 1, 0, 0, 11, 2},
            {2, 0, 0, 400, 1, 10, 0x0F}, {2, 1, 3, 500, 31, 14, 0xD2}, {2, 3, 3, 0, 0, 11, 0}, {7, 63, 3, 1, 2, 3, 4},
        };
        for (int[] c : cells) {
            x.cell(c[0], c[1], c[2], Cells.of(c[3], c[4], c[5], c[6]));
        }
    }

    /** All answers of a player that was told something more, but for those of fault(). */
    static List<String> answers(Consumer<ModulePlayer> told) {
        List<String> all = new ArrayList<>();
        List<BiConsumer<ModulePlayer, List<String>>> askers = new ArrayList<>();
        askers.add(Busy::askPlaying);
        askers.add(Busy::askWhatFollows);
        for (int at = 0; at < 9001; at += ASKED_AT_ONCE) {
            int from = at;
            askers.add((x, list) -> askTape("", x, list, from, from + ASKED_AT_ONCE));
            askers.add((x, list) -> {
                list.add("save() " + x.save());
                askTape("saved ", x, list, from, from + ASKED_AT_ONCE);
            });
        }
        for (int at = 0; at < 2048; at += 256) {
            int pattern = at / 256;
            askers.add((x, list) -> askCells(x, list, pattern));
        }
        askers.add(Busy::askAllPlaces);
        for (BiConsumer<ModulePlayer, List<String>> asker : askers) {
            ModulePlayer x = player();
            told.accept(x);
            asker.accept(x, all);
        }
        return all;
    }

    private static void askPlaying(ModulePlayer x, List<String> all) {
        for (int what = 0; what < 9; what++) {
            all.add("now(" + what + ") " + x.now(what));
        }
        for (int c = 0; c < 4; c++) {
            for (int what = 0; what < 14; what++) {
                all.add("channel(" + c + ", " + what + ") " + x.channel(c, what));
            }
        }
        for (int i = 0; i < 160; i++) {
            all.add("frame(" + i / 2 + ", " + i % 2 + ") " + x.frame(i / 2, i % 2));
        }
        for (int c = 0; c < 4; c++) {
            all.add("mute(" + c + ", false) " + x.mute(c, false));
        }
    }

    /** What a channel keeps and what can't be asked shows in what is played later. */
    private static void askWhatFollows(ModulePlayer x, List<String> all) {
        for (int i = 0; i < 100; i++) {
            all.add("play(4) " + x.play(4) + " place " + x.now(0) + " again " + x.now(6) + " sum " + x.now(7));
        }
    }

    private static void askTape(String when, ModulePlayer x, List<String> all, int from, int to) {
        for (int i = from; i < to; i++) {
            all.add(when + "tape(" + i + ") " + x.tape(i));
        }
    }

    private static void askCells(ModulePlayer x, List<String> all, int pattern) {
        for (int i = 0; i < 256; i++) {
            all.add("cellOf " + pattern + " " + i + " " + x.cellOf(pattern, i / 4, i % 4));
        }
    }

    private static void askAllPlaces(ModulePlayer x, List<String> all) {
        x.song(128, 0);
        all.add("save() of 128 places " + x.save());
        askTape("128 places: ", x, all, 952, 1080);
    }
}
