/** Promises 2 feed, 3 end, 4 poke and 8 tape. */
public final class TapeTest {
    public static void main(String[] args) {
        feed();
        feedUpToTheLimit();
        end();
        poke();
        pokeBehindAnEarlierEnd();
        Due.end();
    }

    private static void feed() {
        ModulePlayer x = new ModulePlayer(8000);
        Due.is("feed", x.feed(0x01020304, 0x7FFF8000, -1, 0x80000001, 0), 20);
        int[] want = {1, 2, 3, 4, 127, 255, 128, 0, 255, 255, 255, 255, 128, 0, 0, 1, 0, 0, 0, 0};
        for (int i = 0; i < want.length; i++) {
            Due.is("tape(" + i + ")", x.tape(i), want[i]);
        }
        Due.is("tape(20)", x.tape(20), -1);
        Due.is("tape(-1)", x.tape(-1), -1);
        Due.is("tape(min)", x.tape(Integer.MIN_VALUE), -1);
        Due.is("tape(max)", x.tape(Integer.MAX_VALUE), -1);
        Due.is("feed", x.feed(0x0A000000, 0, 0, 0, 0x0B), 40);
        Due.is("tape(20)", x.tape(20), 10);
        Due.is("tape(39)", x.tape(39), 11);
        Due.is("tape(0)", x.tape(0), 1);
    }

    private static void feedUpToTheLimit() {
        ModulePlayer x = new ModulePlayer(8000);
        for (int n = 1; n <= 450; n++) {
            Due.is("feed " + n, x.feed(n, n, n, n, n), 20 * n);
        }
        Due.is("feed beyond", x.feed(1, 1, 1, 1, 1), -1);
        Due.is("tape(8999)", x.tape(8999), 450 & 255);
        Due.is("tape(9000)", x.tape(9000), -1);
        Due.yes("end(8981)", x.end(8981));
        Due.is("feed beyond by one", x.feed(1, 1, 1, 1, 1), -1);
        Due.is("tape(8981)", x.tape(8981), -1);
        Due.yes("end(8980)", x.end(8980));
        Due.is("feed just so", x.feed(1, 2, 3, 4, 5), 9000);
        Due.is("tape(8999)", x.tape(8999), 5);
    }

    private static void end() {
        ModulePlayer x = new ModulePlayer(8000);
        Due.yes("end(0) of none", x.end(0));
        Due.no("end(1) of none", x.end(1));
        x.feed(-1, -1, -1, -1, -1);
        Due.no("end(21)", x.end(21));
        Due.no("end(-1)", x.end(-1));
        Due.no("end(min)", x.end(Integer.MIN_VALUE));
        Due.is("tape(19)", x.tape(19), 255);
        Due.yes("end(20)", x.end(20));
        Due.is("tape(19)", x.tape(19), 255);
        Due.yes("end(7)", x.end(7));
        Due.is("tape(6)", x.tape(6), 255);
        Due.is("tape(7)", x.tape(7), -1);
        Due.is("feed behind it", x.feed(0x01000000, 0, 0, 0, 2), 27);
        Due.is("tape(7)", x.tape(7), 1);
        Due.is("tape(26)", x.tape(26), 2);
    }

    private static void poke() {
        ModulePlayer x = new ModulePlayer(8000);
        Due.is("poke(3, 300)", x.poke(3, 300), 4);
        Due.is("tape(3)", x.tape(3), 44);
        Due.is("tape(2)", x.tape(2), 0);
        Due.is("poke(0, -1)", x.poke(0, -1), 4);
        Due.is("tape(0)", x.tape(0), 255);
        Due.is("poke(1, -300)", x.poke(1, -300), 4);
        Due.is("tape(1)", x.tape(1), 212);
        Due.is("poke(4, 256)", x.poke(4, 256), 5);
        Due.is("tape(4)", x.tape(4), 0);
        Due.is("poke(-1, 1)", x.poke(-1, 1), -1);
        Due.is("poke(9000, 1)", x.poke(9000, 1), -1);
        Due.is("poke(max, 1)", x.poke(Integer.MAX_VALUE, 1), -1);
        Due.is("poke(min, 1)", x.poke(Integer.MIN_VALUE, 1), -1);
        Due.is("tape(5)", x.tape(5), -1);
        Due.is("poke(8999, 7)", x.poke(8999, 7), 9000);
        Due.is("tape(8999)", x.tape(8999), 7);
        Due.is("tape(8998)", x.tape(8998), 0);
    }

    private static void pokeBehindAnEarlierEnd() {
        ModulePlayer x = new ModulePlayer(8000);
        x.feed(-1, -1, -1, -1, -1);
        x.end(5);
        Due.is("poke(10, 9)", x.poke(10, 9), 11);
        int[] want = {255, 255, 255, 255, 255, 0, 0, 0, 0, 0, 9, -1};
        for (int i = 0; i < want.length; i++) {
            Due.is("tape(" + i + ")", x.tape(i), want[i]);
        }
    }
}
