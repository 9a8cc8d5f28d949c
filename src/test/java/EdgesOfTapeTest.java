/** Promises 2 feed, 3 end, 4 poke and 8 tape, sentence by sentence, at their edges. */
public final class EdgesOfTapeTest {
    private static final int MAX = Integer.MAX_VALUE;
    private static final int MIN = Integer.MIN_VALUE;

    public static void main(String[] args) {
        Sentence.holds("Twenty BYTES come behind those on the TAPE", EdgesOfTapeTest::feedComesBehind);
        Sentence.holds("of each number the highest first: how many there are", EdgesOfTapeTest::highestFirst);
        Sentence.holds("NONE when there would be more than 9000.", EdgesOfTapeTest::fullTape);
        Sentence.holds("The TAPE has its first n BYTES alone: true", EdgesOfTapeTest::endTakes);
        Sentence.holds("false when it has not so many, or n is below 0.", EdgesOfTapeTest::endRefuses);
        Sentence.holds("BYTE i of the TAPE becomes v modulo 256", EdgesOfTapeTest::modulo256);
        Sentence.holds("bytes that are missing up to it are 0: how many it has then", EdgesOfTapeTest::missingBytes);
        Sentence.holds("NONE if i isn't 0 .. 8999.", EdgesOfTapeTest::pokeRefuses);
        Sentence.holds("BYTE i of the TAPE; NONE without.", EdgesOfTapeTest::tapeWithout);
        Due.end();
    }

    private static void bytes(ModulePlayer x, int from, int... want) {
        for (int i = 0; i < want.length; i++) {
            Due.is("tape(" + (from + i) + ")", x.tape(from + i), want[i]);
        }
    }

    private static void feedComesBehind() {
        ModulePlayer x = new ModulePlayer(8000);
        Due.is("feed on an empty tape", x.feed(0, 0, 0, 0, 7), 20);
        bytes(x, 19, 7, -1);
        x.poke(20, 8);
        Due.is("feed behind 21", x.feed(0x09000000, 0, 0, 0, 10), 41);
        bytes(x, 18, 0, 7, 8, 9, 0);
        bytes(x, 40, 10, -1);
    }

    private static void highestFirst() {
        ModulePlayer x = new ModulePlayer(8000);
        Due.is("feed", x.feed(0x01020304, MIN, MAX, -1, 0x0000FF00), 20);
        bytes(x, 0, 1, 2, 3, 4, 128, 0, 0, 0, 127, 255, 255, 255, 255, 255, 255, 255, 0, 0, 255, 0, -1);
    }

    private static void fullTape() {
        ModulePlayer x = new ModulePlayer(8000);
        x.poke(8979, 1);
        Due.is("feed on 8980", x.feed(2, 2, 2, 2, 3), 9000);
        bytes(x, 8999, 3, -1);
        Refused.none("feed on 8981", y -> y.poke(8980, 1), y -> y.feed(2, 2, 2, 2, 2));
        Refused.none("feed on 8999", y -> y.poke(8998, 1), y -> y.feed(2, 2, 2, 2, 2));
        Refused.none("feed on 9000", y -> y.poke(8999, 1), y -> y.feed(2, 2, 2, 2, 2));
    }

    private static void endTakes() {
        ModulePlayer x = new ModulePlayer(8000);
        Due.yes("end(0) of an empty tape", x.end(0));
        x.feed(-1, -1, -1, -1, -1);
        Due.yes("end(20) of 20", x.end(20));
        bytes(x, 19, 255, -1);
        Due.yes("end(19) of 20", x.end(19));
        bytes(x, 18, 255, -1);
        Due.yes("end(1)", x.end(1));
        bytes(x, 0, 255, -1);
        Due.yes("end(0)", x.end(0));
        bytes(x, 0, -1);
        x.poke(8999, 5);
        Due.yes("end(9000) of 9000", x.end(9000));
        bytes(x, 8999, 5, -1);
    }

    private static void endRefuses() {
        ModulePlayer x = new ModulePlayer(8000);
        Due.no("end(1) of an empty tape", x.end(1));
        // The busy player's tape has 4301 bytes.
        for (int n : new int[] {-1, 4302, 9000, 9001, MAX, MIN}) {
            Refused.no("end(" + n + ")", y -> y.end(n));
        }
        Refused.no("end(8) of 7", y -> y.end(7), y -> y.end(8));
        Refused.no("end(9001) of 9000", y -> y.poke(8999, 1), y -> y.end(9001));
    }

    private static void modulo256() {
        int[][] told = {
            {0, 0}, {1, 1}, {255, 255}, {256, 0}, {257, 1}, {-1, 255}, {-255, 1}, {-256, 0}, {-257, 255},
            {MAX, 255}, {MIN, 0}, {127, 127}, {128, 128}, {-128, 128}, {-129, 127},
        };
        for (int[] pair : told) {
            ModulePlayer x = new ModulePlayer(8000);
            x.poke(0, pair[0]);
            Due.is("tape(0) behind poke(0, " + pair[0] + ")", x.tape(0), pair[1]);
        }
    }

    private static void missingBytes() {
        ModulePlayer x = new ModulePlayer(8000);
        Due.is("poke(0, 1)", x.poke(0, 1), 1);
        Due.is("poke(1, 2): none is missing", x.poke(1, 2), 2);
        Due.is("poke(0, 3): it has them all", x.poke(0, 3), 2);
        Due.is("poke(3, 4): one is missing", x.poke(3, 4), 4);
        bytes(x, 0, 3, 2, 0, 4, -1);
        x.feed(-1, -1, -1, -1, -1);
        x.end(4);
        Due.is("poke(8, 5): what was there is gone", x.poke(8, 5), 9);
        bytes(x, 3, 4, 0, 0, 0, 0, 5, -1);
        Due.is("poke(8999, 6)", x.poke(8999, 6), 9000);
        bytes(x, 8998, 0, 6, -1);
    }

    private static void pokeRefuses() {
        ModulePlayer x = new ModulePlayer(8000);
        Due.is("poke(8999, 1)", x.poke(8999, 1), 9000);
        Due.is("poke(0, 1)", x.poke(0, 1), 9000);
        for (int i : new int[] {-1, 9000, 9001, MAX, MIN}) {
            Refused.none("poke(" + i + ", 1)", y -> y.poke(i, 1));
        }
    }

    private static void tapeWithout() {
        ModulePlayer x = new ModulePlayer(8000);
        bytes(x, -1, -1, -1, -1);
        x.poke(2, 9);
        bytes(x, -1, -1, 0, 0, 9, -1);
        for (int i : new int[] {8999, 9000, 9001, MAX, MIN}) {
            Due.is("tape(" + i + ")", x.tape(i), -1);
        }
        x.poke(8999, 8);
        bytes(x, 8998, 0, 8, -1);
        Refused.none("tape(-1)", y -> y.tape(-1));
        Refused.none("tape(4301)", y -> y.tape(4301));
    }
}
