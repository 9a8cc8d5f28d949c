/** Tells CELLS by their parts. */
final class Cells {
    private Cells() { }

    static int of(int period, int sample, int effect, int number) {
        return period * 131072 + sample * 4096 + effect * 256 + number;
    }

    static int effect(int effect, int number) {
        return of(0, 0, effect, number);
    }

    static int note(int period, int sample) {
        return of(period, sample, 0, 0);
    }
}
