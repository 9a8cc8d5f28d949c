import java.util.ArrayList;
import java.util.HashSet;
import java.util.List;
import java.util.Set;

/**
 * The document once more, written for plainness alone and apart from the class: lists that grow,
 * frames mixed one by one, loops that subtract. Random runs ask both and compare.
 */
final class PlainPlayer {
    static final class Smp {
        int tune, volume, start, loop;
        int[] data = new int[0];
    }

    static final class Cell {
        int sample, period, effect, number;

        int told() {
            return period * 131072 + sample * 4096 + effect * 256 + number;
        }

        static Cell of(int what) {
            Cell c = new Cell();
            c.period = what / 131072;
            c.sample = what / 4096 % 32;
            c.effect = what / 256 % 16;
            c.number = what % 256;
            return c;
        }
    }

    static final class Chan {
        Cell cell = new Cell();
        int sample, volume, tune, period, notePeriod, target, porta;
        int vibX, vibY, vibPlace, vibForm, tremX, tremY, tremPlace, tremForm;
        int offset, loopRow, loopLeft, heardPeriod, heardVolume;
        long place;
        boolean sounds;
    }

    private final int rate;
    private List<Integer> tape = new ArrayList<>();
    private Smp[] samples = new Smp[32];
    private Cell[][][] patterns = new Cell[8][64][4];
    private int[] places = new int[128];
    private int songLength = 1, restart, fault, faultPlace = -1;
    private final boolean[] mute = new boolean[4];

    private Chan[] chans;
    private int speed, tempo, place, row, tick, ticks, again, sum, delay;
    private int jump, breakTo, loopTo;
    private Set<Integer> begun;
    private List<int[]> frames;

    PlainPlayer(int rate) {
        this.rate = rate < 2000 ? 2000 : rate > 16000 ? 16000 : rate;
        empty();
        start();
    }

    private void empty() {
        for (int s = 0; s < 32; s++) {
            samples[s] = new Smp();
        }
        for (Cell[][] pattern : patterns) {
            for (Cell[] cells : pattern) {
                for (int c = 0; c < 4; c++) {
                    cells[c] = new Cell();
                }
            }
        }
        places = new int[128];
    }

    int feed(int a, int b, int c, int d, int e) {
        if (tape.size() + 20 > 9000) {
            return -1;
        }
        for (int n : new int[] {a, b, c, d, e}) {
            tape.add(n >>> 24);
            tape.add(n >>> 16 & 0xFF);
            tape.add(n >>> 8 & 0xFF);
            tape.add(n & 0xFF);
        }
        return tape.size();
    }

    boolean end(int n) {
        if (n < 0 || n > tape.size()) {
            return false;
        }
        tape = new ArrayList<>(tape.subList(0, n));
        return true;
    }

    int poke(int i, int v) {
        if (i < 0 || i > 8999) {
            return -1;
        }
        while (tape.size() <= i) {
            tape.add(0);
        }
        tape.set(i, Math.floorMod(v, 256));
        return tape.size();
    }

    int tape(int i) {
        return i < 0 || i >= tape.size() ? -1 : tape.get(i);
    }

    private int word(int at) {
        return tape.get(at) * 256 + tape.get(at + 1);
    }

    private int[] findFault() {
        if (tape.size() < 1084) {
            return new int[] {1, tape.size()};
        }
        int[] mark = {77, 46, 75, 46};
        for (int i = 0; i < 4; i++) {
            if (tape.get(1080 + i) != mark[i]) {
                return new int[] {2, 1080 + i};
            }
        }
        int all = 0;
        for (int at = 42; at < 950; at += 30) {
            int length = word(at) * 2;
            all += length;
            if (length > 2000 || all > 4000) {
                return new int[] {3, at};
            }
            if (tape.get(at + 2) > 15) {
                return new int[] {3, at + 2};
            }
            if (tape.get(at + 3) > 64) {
                return new int[] {3, at + 3};
            }
            int from = word(at + 4) * 2;
            int loop = word(at + 6) * 2;
            if (from + (loop > 2 ? loop : 0) > length) {
                return new int[] {3, at + 4};
            }
        }
        int n = tape.get(950);
        if (n == 0 || n > 128) {
            return new int[] {3, 950};
        }
        int greatest = 0;
        for (int i = 0; i < n; i++) {
            if (tape.get(952 + i) > 7) {
                return new int[] {3, 952 + i};
            }
            greatest = Math.max(greatest, tape.get(952 + i));
        }
        return tape.size() < 1084 + 1024 * (greatest + 1) + all ? new int[] {4, tape.size()} : null;
    }

    int load() {
        int[] found = findFault();
        fault = found == null ? 0 : found[0];
        faultPlace = found == null ? -1 : found[1];
        if (found != null) {
            return -1;
        }
        empty();
        songLength = tape.get(950);
        restart = tape.get(951);
        int count = 0;
        for (int i = 0; i < songLength; i++) {
            places[i] = tape.get(952 + i);
            count = Math.max(count, places[i] + 1);
        }
        int at = 1084;
        for (int p = 0; p < count; p++) {
            for (int r = 0; r < 64; r++) {
                for (int c = 0; c < 4; c++, at += 4) {
                    Cell cell = patterns[p][r][c];
                    cell.sample = (tape.get(at) / 16 * 16 + tape.get(at + 2) / 16) % 32;
                    cell.period = tape.get(at) % 16 * 256 + tape.get(at + 1);
                    cell.effect = tape.get(at + 2) % 16;
                    cell.number = tape.get(at + 3);
                }
            }
        }
        for (int s = 1; s <= 31; s++) {
            int head = 42 + 30 * (s - 1);
            Smp smp = samples[s];
            smp.data = new int[word(head) * 2];
            smp.tune = tape.get(head + 2) < 8 ? tape.get(head + 2) : tape.get(head + 2) - 16;
            smp.volume = tape.get(head + 3);
            smp.start = word(head + 4) * 2;
            smp.loop = word(head + 6) * 2;
            for (int i = 0; i < smp.data.length; i++, at++) {
                smp.data[i] = tape.get(at) > 127 ? tape.get(at) - 256 : tape.get(at);
            }
        }
        start();
        return count;
    }

    int fault(int what) {
        return what == 0 ? fault : what == 1 ? faultPlace : -1;
    }

    int save() {
        List<Integer> out = new ArrayList<>();
        zeros(out, 20);
        for (int s = 1; s <= 31; s++) {
            Smp smp = samples[s];
            zeros(out, 22);
            twoBytes(out, smp.data.length / 2);
            out.add(Math.floorMod(smp.tune, 16));
            out.add(smp.volume);
            twoBytes(out, smp.start / 2);
            twoBytes(out, smp.loop / 2);
        }
        out.add(songLength);
        out.add(restart);
        int count = 0;
        for (int i = 0; i < 128; i++) {
            out.add(i < songLength ? places[i] : 0);
            count = i < songLength ? Math.max(count, places[i] + 1) : count;
        }
        out.addAll(List.of(77, 46, 75, 46));
        for (int p = 0; p < count; p++) {
            for (Cell[] cells : patterns[p]) {
                for (Cell cell : cells) {
                    out.add(cell.sample / 16 * 16 + cell.period / 256);
                    out.add(cell.period % 256);
                    out.add(cell.sample % 16 * 16 + cell.effect);
                    out.add(cell.number);
                }
            }
        }
        for (int s = 1; s <= 31; s++) {
            for (int value : samples[s].data) {
                out.add(Math.floorMod(value, 256));
            }
        }
        if (out.size() > 9000) {
            return -1;
        }
        tape = out;
        return out.size();
    }

    private static void zeros(List<Integer> out, int n) {
        for (int i = 0; i < n; i++) {
            out.add(0);
        }
    }

    private static void twoBytes(List<Integer> out, int value) {
        out.add(value / 256);
        out.add(value % 256);
    }

    boolean sample(int s, int length, int tune, int volume) {
        boolean fits = s >= 1 && s <= 31 && length >= 0 && length <= 2000 && length % 2 == 0
                && tune >= -8 && tune <= 7 && volume >= 0 && volume <= 64;
        if (!fits) {
            return false;
        }
        int all = length;
        for (int other = 1; other <= 31; other++) {
            all += other == s ? 0 : samples[other].data.length;
        }
        if (all > 4000) {
            return false;
        }
        samples[s] = new Smp();
        samples[s].data = new int[length];
        samples[s].tune = tune;
        samples[s].volume = volume;
        return true;
    }

    boolean loop(int s, int start, int loop) {
        if (s < 1 || s > 31 || start < 0 || loop < 0 || start % 2 == 1 || loop % 2 == 1) {
            return false;
        }
        if (start > samples[s].data.length || loop > 2 && loop > samples[s].data.length - start) {
            return false;
        }
        samples[s].start = start;
        samples[s].loop = loop;
        return true;
    }

    boolean wave(int s, int i, int v) {
        if (s < 1 || s > 31 || i < 0 || i >= samples[s].data.length || v < -128 || v > 127) {
            return false;
        }
        samples[s].data[i] = v;
        return true;
    }

    private static boolean isCell(int pattern, int r, int channel) {
        return pattern >= 0 && pattern < 8 && r >= 0 && r < 64 && channel >= 0 && channel < 4;
    }

    boolean cell(int pattern, int r, int channel, int what) {
        if (!isCell(pattern, r, channel) || what < 0 || what > 536870911) {
            return false;
        }
        patterns[pattern][r][channel] = Cell.of(what);
        return true;
    }

    int cellOf(int pattern, int r, int channel) {
        return isCell(pattern, r, channel) ? patterns[pattern][r][channel].told() : -1;
    }

    boolean place(int i, int pattern) {
        if (i < 0 || i > 127 || pattern < 0 || pattern > 7) {
            return false;
        }
        places[i] = pattern;
        return true;
    }

    boolean song(int n, int again) {
        if (n < 1 || n > 128 || again < 0 || again > 255) {
            return false;
        }
        songLength = n;
        restart = again;
        return true;
    }

    void start() {
        chans = new Chan[] {new Chan(), new Chan(), new Chan(), new Chan()};
        speed = 6;
        tempo = 125;
        sum = 17;
        place = row = tick = ticks = again = delay = 0;
        begun = new HashSet<>();
        frames = new ArrayList<>();
    }

    boolean mute(int channel, boolean is) {
        if (channel < 0 || channel > 3) {
            return false;
        }
        boolean was = mute[channel];
        mute[channel] = is;
        return was;
    }

    int play(int n) {
        if (n < 0 || n > 400) {
            return -1;
        }
        for (int i = 0; i < n; i++) {
            oneTick();
        }
        return ticks;
    }

    private void oneTick() {
        boolean rowIsOver = tick == speed * (1 + delay) - 1;
        if (ticks == 0 || rowIsOver) {
            if (ticks > 0) {
                nextRow();
            }
            begin();
        } else {
            tick++;
        }
        ticks++;
        for (Chan c : chans) {
            if (tick == 0) {
                firstTick(c);
            } else {
                otherTick(c);
            }
        }
        frames = new ArrayList<>();
        int count = rate * 5 / (tempo * 2);
        for (int i = 0; i < count; i++) {
            oneFrame();
        }
    }

    private void nextRow() {
        if (loopTo >= 0) {
            row = loopTo;
        } else if (jump >= 0) {
            place = jump >= songLength ? 0 : jump;
            row = breakTo >= 0 ? breakTo : 0;
        } else if (breakTo >= 0) {
            place++;
            row = breakTo;
        } else if (row == 63) {
            place++;
            row = 0;
        } else {
            row++;
        }
        if (place >= songLength) {
            place = restart < songLength ? restart : 0;
        }
    }

    private void begin() {
        tick = 0;
        delay = 0;
        jump = breakTo = loopTo = -1;
        boolean looping = false;
        for (int c = 0; c < 4; c++) {
            looping |= chans[c].loopLeft > 0;
            chans[c].cell = Cell.of(patterns[places[place]][row][c].told());
        }
        if (!begun.add(place * 64 + row) && !looping) {
            again++;
        }
    }

    private static int within(int least, int value, int most) {
        return value < least ? least : value > most ? most : value;
    }

    private void strike(Chan c) {
        c.place = 0;
        c.sounds = c.sample > 0 && samples[c.sample].data.length > 0;
    }

    private void note(Chan c) {
        if (c.cell.sample > 0) {
            c.sample = c.cell.sample;
            c.volume = samples[c.sample].volume;
            c.tune = samples[c.sample].tune;
        }
        if (c.cell.period > 0) {
            int p = c.cell.period;
            int tuned = within(113, p - p * c.tune / 138, 856);
            if (c.cell.effect == 3 || c.cell.effect == 5) {
                c.target = tuned;
            } else {
                c.period = c.notePeriod = tuned;
                strike(c);
                c.vibPlace = c.tremPlace = 0;
            }
        }
    }

    private void firstTick(Chan c) {
        int n = c.cell.number, x = n / 16, y = n % 16;
        if (!(c.cell.effect == 14 && x == 13 && y > 0)) {
            note(c);
        }
        switch (c.cell.effect) {
            case 3 -> c.porta = n != 0 ? n : c.porta;
            case 4 -> {
                c.vibX = x != 0 ? x : c.vibX;
                c.vibY = y != 0 ? y : c.vibY;
            }
            case 7 -> {
                c.tremX = x != 0 ? x : c.tremX;
                c.tremY = y != 0 ? y : c.tremY;
            }
            case 9 -> {
                c.offset = n != 0 ? n : c.offset;
                if (c.cell.period > 0) {
                    c.place = c.offset * 256L * 65536L;
                    if (c.sample == 0 || c.offset * 256 >= samples[c.sample].data.length) {
                        c.sounds = false;
                    }
                }
            }
            case 11 -> jump = n;
            case 12 -> c.volume = n > 64 ? 64 : n;
            case 13 -> breakTo = 10 * x + y > 63 ? 0 : 10 * x + y;
            case 14 -> firstTickOf14(c, x, y);
            case 15 -> {
                if (n > 31) {
                    tempo = n;
                } else if (n != 0) {
                    speed = n;
                }
            }
            default -> { }
        }
        c.heardPeriod = c.period;
        c.heardVolume = c.volume;
    }

    private void firstTickOf14(Chan c, int x, int y) {
        switch (x) {
            case 1 -> c.period = c.period == 0 ? 0 : within(113, c.period - y, 856);
            case 2 -> c.period = c.period == 0 ? 0 : within(113, c.period + y, 856);
            case 4 -> c.vibForm = y % 4;
            case 5 -> c.tune = y < 8 ? y : y - 16;
            case 6 -> {
                if (y == 0) {
                    c.loopRow = row;
                } else {
                    if (c.loopLeft == 0) {
                        c.loopLeft = y;
                    } else {
                        c.loopLeft--;
                    }
                    if (c.loopLeft != 0) {
                        loopTo = c.loopRow;
                    }
                }
            }
            case 7 -> c.tremForm = y % 4;
            case 9 -> {
                if (y != 0 && c.cell.period == 0) {
                    strike(c);
                }
            }
            case 10 -> c.volume = within(0, c.volume + y, 64);
            case 11 -> c.volume = within(0, c.volume - y, 64);
            case 12 -> c.volume = y == 0 ? 0 : c.volume;
            case 14 -> delay = y;
            default -> { }
        }
    }

    private void otherTick(Chan c) {
        int e = c.cell.effect, n = c.cell.number, x = n / 16, y = n % 16;
        if (e == 14 && x == 13 && tick == y) {
            note(c);
        }
        if (c.period != 0 && e == 1) {
            c.period = within(113, c.period - n, 856);
        }
        if (c.period != 0 && e == 2) {
            c.period = within(113, c.period + n, 856);
        }
        if (c.period != 0 && (e == 3 || e == 5) && c.target != 0) {
            if (c.period < c.target) {
                c.period = Math.min(c.period + c.porta, c.target);
            } else {
                c.period = Math.max(c.period - c.porta, c.target);
            }
        }
        if (e == 5 || e == 6 || e == 10) {
            c.volume = within(0, x != 0 ? c.volume + x : c.volume - y, 64);
        }
        if (e == 14 && x == 9 && y != 0 && tick % y == 0) {
            strike(c);
        }
        if (e == 14 && x == 12 && tick == y) {
            c.volume = 0;
        }
        c.heardPeriod = c.period;
        c.heardVolume = c.volume;
        if (c.period == 0) {
            return;
        }
        if (e == 0 && n != 0 && tick % 3 != 0) {
            int p = c.notePeriod;
            for (int i = tick % 3 == 1 ? x : y; i > 0; i--) {
                p = p * 17843 / 18904;
            }
            c.heardPeriod = Math.max(54, p);
        }
        if (e == 4 || e == 6) {
            c.heardPeriod = Math.max(54, c.period + waveAt(c.vibPlace, c.vibForm) * c.vibY / 128);
            c.vibPlace = (c.vibPlace + c.vibX) % 64;
        }
        if (e == 7) {
            c.heardVolume = within(0, c.volume + waveAt(c.tremPlace, c.tremForm) * c.tremY / 64, 64);
            c.tremPlace = (c.tremPlace + c.tremX) % 64;
        }
    }

    private static int waveAt(int p, int form) {
        int q = p % 32;
        int high = form == 1 ? 8 * q : form == 2 ? 255 : 255 * q * (32 - q) / 256;
        return p >= 32 ? -high : high;
    }

    private void oneFrame() {
        int[] sides = {0, 0};
        for (int i = 0; i < 4; i++) {
            Chan c = chans[i];
            if (!c.sounds || c.period == 0) {
                continue;
            }
            Smp smp = samples[c.sample];
            if (c.place >= smp.data.length * 65536L) {
                c.sounds = false;
                continue;
            }
            if (!mute[i]) {
                sides[i == 0 || i == 3 ? 0 : 1] += smp.data[(int) (c.place / 65536)] * c.heardVolume;
            }
            c.place += 3546895L * 65536L / ((long) c.heardPeriod * rate);
            if (smp.loop > 2) {
                while (c.place >= (smp.start + smp.loop) * 65536L) {
                    c.place -= smp.loop * 65536L;
                }
            } else if (c.place >= smp.data.length * 65536L) {
                c.sounds = false;
            }
        }
        sum = (sum * 31 + sides[0]) * 31 + sides[1];
        frames.add(sides);
    }

    int now(int what) {
        if (what < 0 || what > 8 || ticks == 0 && what < 4) {
            return -1;
        }
        return new int[] {place, row, tick, frames.size(), speed, tempo, again, sum, ticks}[what];
    }

    int channel(int i, int what) {
        if (i < 0 || i > 3 || what < 0 || what > 13) {
            return -1;
        }
        Chan c = chans[i];
        return new int[] {c.sample, c.volume, c.period, (int) (c.place / 65536), c.sounds ? 1 : 0,
            c.heardPeriod, c.heardVolume, c.tune, c.target, (int) (c.place % 65536), c.vibPlace,
            c.tremPlace, c.loopRow, c.loopLeft}[what];
    }

    int frame(int i, int side) {
        return i < 0 || i >= frames.size() || side < 0 || side > 1 ? 0 : frames.get(i)[side];
    }
}
