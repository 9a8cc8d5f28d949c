/** Promise 1: a new object. */
public final class NewObjectTest {
    public static void main(String[] args) {
        rates();
        emptyModule();
        atTheBegin();
        Due.end();
    }

    private static void rates() {
        int[][] ratesAndFrames = {
            {8000, 160}, {2000, 40}, {16000, 320}, {1999, 40}, {16001, 320}, {0, 40}, {-5, 40},
            {Integer.MIN_VALUE, 40}, {Integer.MAX_VALUE, 320}, {11025, 220},
        };
        for (int[] pair : ratesAndFrames) {
            ModulePlayer x = new ModulePlayer(pair[0]);
            x.play(1);
            Due.is("now(3) at rate " + pair[0], x.now(3), pair[1]);
        }
    }

    private static void emptyModule() {
        ModulePlayer x = new ModulePlayer(8000);
        Due.is("NONE", ModulePlayer.NONE, -1);
        Due.is("tape(0)", x.tape(0), -1);
        Due.is("fault(0)", x.fault(0), 0);
        Due.is("fault(1)", x.fault(1), -1);
        for (int pattern = 0; pattern < 8; pattern++) {
            Due.is("cellOf", x.cellOf(pattern, 63, 3), 0);
        }
        Due.no("wave(1, 0, 0)", x.wave(1, 0, 0));
        Due.is("save()", x.save(), 2108);
        for (int i = 930; i < 1090; i++) {
            int want = i == 950 ? 1 : i == 1080 ? 77 : i == 1082 ? 75 : i == 1081 || i == 1083 ? 46 : 0;
            Due.is("tape(" + i + ")", x.tape(i), want);
        }
    }

    private static void atTheBegin() {
        ModulePlayer x = new ModulePlayer(8000);
        int[] now = {-1, -1, -1, -1, 6, 125, 0, 17, 0};
        for (int what = 0; what < now.length; what++) {
            Due.is("now(" + what + ")", x.now(what), now[what]);
        }
        for (int c = 0; c < 4; c++) {
            for (int what = 0; what < 14; what++) {
                Due.is("channel(" + c + ", " + what + ")", x.channel(c, what), 0);
            }
            Due.no("mute", x.mute(c, false));
        }
        Due.is("frame(0, 0)", x.frame(0, 0), 0);
    }
}
