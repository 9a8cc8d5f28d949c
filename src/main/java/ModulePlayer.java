import java.util.Arrays;

/**
 * A player of tracker modules of four channels: modules are read from bytes or told cell by cell,
 * written to bytes again, and played tick by tick, each tick mixed to whole numbers.
 * Words in capitals in the comments are those of the document's Terms.
 */
public final class ModulePlayer {
    /** There is none. */
    public static final int NONE = -1;

    private static final int CHANNELS = 4;
    private static final int SAMPLES = 31;
    private static final int PATTERNS = 8;
    private static final int ROWS = 64;
    private static final int PLACES = 128;
    private static final int MAX_CELL = 536870911;
    private static final int MAX_RESTART = 255;
    private static final int MAX_VOLUME = 64;
    private static final int MAX_LENGTH = 2000;
    private static final int MAX_ALL_LENGTHS = 4000;
    private static final int MAX_TAPE = 9000;
    private static final int FEED_BYTES = 20;
    private static final int MAX_TICKS_A_CALL = 400;
    private static final int MIN_RATE = 2000;
    private static final int MAX_RATE = 16000;
    private static final int LEAST_PERIOD = 113;
    private static final int GREATEST_PERIOD = 856;
    private static final int LEAST_HEARD_PERIOD = 54;
    private static final int LEAST_TEMPO = 32;

    private final Tape tape;
    private final Bank bank;
    private final Score score;
    private final Reader reader;
    private final Flow flow;
    private final Channel[] channels;
    private final Mixer mixer;

    public ModulePlayer(int rate) {
        tape = new Tape();
        bank = new Bank();
        score = new Score();
        reader = new Reader();
        flow = new Flow(score);
        channels = new Channel[CHANNELS];
        for (int c = 0; c < CHANNELS; c++) {
            channels[c] = new Channel(bank);
        }
        mixer = new Mixer(limit(rate, MIN_RATE, MAX_RATE));
        goToBegin();
    }

    public int feed(int a, int b, int c, int d, int e) {
        if (tape.length > MAX_TAPE - FEED_BYTES) {
            return NONE;
        }
        tape.append(a);
        tape.append(b);
        tape.append(c);
        tape.append(d);
        tape.append(e);
        return tape.length;
    }

    public boolean end(int n) {
        if (n < 0 || n > tape.length) {
            return false;
        }
        tape.length = n;
        return true;
    }

    public int poke(int i, int v) {
        if (!isIn(i, MAX_TAPE)) {
            return NONE;
        }
        tape.put(i, v);
        return tape.length;
    }

    public int load() {
        if (!reader.accepts(tape)) {
            return NONE;
        }
        Reader.readSong(tape, score);
        Reader.readSamples(tape, bank, Reader.patternsEnd(score.countPatterns()));
        goToBegin();
        return score.countPatterns();
    }

    public int fault(int what) {
        switch (what) {
            case 0: return reader.fault;
            case 1: return reader.faultPlace;
            default: return NONE;
        }
    }

    public int save() {
        int patternsEnd = Reader.patternsEnd(score.countPatterns());
        if (patternsEnd + bank.used > MAX_TAPE) {
            return NONE;
        }
        tape.length = 0;
        Writer.writeSong(tape, score);
        Writer.writeSamples(tape, bank, patternsEnd);
        return tape.length;
    }

    public int tape(int i) {
        return tape.at(i);
    }

    public boolean sample(int s, int length, int tune, int volume) {
        if (!bank.has(s) || !bank.canResize(s, length)
                || tune < -8 || tune > 7 || volume < 0 || volume > MAX_VOLUME) {
            return false;
        }
        bank.reshape(s, length, tune, volume);
        return true;
    }

    public boolean loop(int s, int start, int loop) {
        if (!bank.has(s)) {
            return false;
        }
        Sample told = bank.get(s);
        if (!Sample.loopFits(told.length, start, loop)) {
            return false;
        }
        told.start = start;
        told.loop = loop;
        return true;
    }

    public boolean wave(int s, int i, int v) {
        if (!bank.has(s) || !isIn(i, bank.get(s).length) || v < -128 || v > 127) {
            return false;
        }
        bank.putByte(bank.get(s), i, v);
        return true;
    }

    public boolean cell(int pattern, int row, int channel, int what) {
        if (!Score.hasCell(pattern, row, channel) || what < 0 || what > MAX_CELL) {
            return false;
        }
        score.putCell(pattern, row, channel, what);
        return true;
    }

    public int cellOf(int pattern, int row, int channel) {
        return Score.hasCell(pattern, row, channel) ? score.getCell(pattern, row, channel) : NONE;
    }

    public boolean place(int i, int pattern) {
        if (!isIn(i, PLACES) || !isIn(pattern, PATTERNS)) {
            return false;
        }
        score.places[i] = pattern;
        return true;
    }

    public boolean song(int n, int restart) {
        if (n < 1 || n > PLACES || restart < 0 || restart > MAX_RESTART) {
            return false;
        }
        score.length = n;
        score.restart = restart;
        return true;
    }

    public void start() {
        goToBegin();
    }

    public boolean mute(int channel, boolean is) {
        if (!isIn(channel, CHANNELS)) {
            return false;
        }
        boolean was = channels[channel].muted;
        channels[channel].muted = is;
        return was;
    }

    public int play(int n) {
        if (n < 0 || n > MAX_TICKS_A_CALL) {
            return NONE;
        }
        for (int i = 0; i < n; i++) {
            playTick();
        }
        return flow.ticks;
    }

    public int now(int what) {
        if (flow.ticks == 0 && what >= 0 && what <= 3) {
            return NONE;
        }
        switch (what) {
            case 0: return flow.place;
            case 1: return flow.row;
            case 2: return flow.tick;
            case 3: return mixer.frames;
            case 4: return flow.speed;
            case 5: return flow.tempo;
            case 6: return flow.again;
            case 7: return mixer.sum;
            case 8: return flow.ticks;
            default: return NONE;
        }
    }

    public int channel(int c, int what) {
        if (!isIn(c, CHANNELS)) {
            return NONE;
        }
        Channel asked = channels[c];
        switch (what) {
            case 0: return asked.sample;
            case 1: return asked.volume;
            case 2: return asked.period;
            case 3: return (int) (asked.place >> 16);
            case 4: return asked.sounds ? 1 : 0;
            case 5: return asked.heardPeriod;
            case 6: return asked.heardVolume;
            case 7: return asked.tune;
            case 8: return asked.target;
            case 9: return (int) (asked.place & 65535);
            case 10: return asked.vibrato.place;
            case 11: return asked.tremolo.place;
            case 12: return asked.loopRow;
            case 13: return asked.loopLeft;
            default: return NONE;
        }
    }

    public int frame(int i, int side) {
        if (!isIn(i, mixer.frames)) {
            return 0;
        }
        switch (side) {
            case 0: return mixer.left[i];
            case 1: return mixer.right[i];
            default: return 0;
        }
    }

    private void goToBegin() {
        flow.rewind();
        mixer.rewind();
        for (int c = 0; c < CHANNELS; c++) {
            channels[c].rewind();
        }
    }

    private void playTick() {
        flow.step(channels);
        for (int c = 0; c < CHANNELS; c++) {
            channels[c].act(flow);
        }
        mixer.mix(channels, flow.tempo);
    }

    private static boolean isIn(int index, int size) {
        return index >= 0 && index < size;
    }

    private static int limit(int value, int least, int greatest) {
        if (value < least) {
            return least;
        }
        return value > greatest ? greatest : value;
    }

    /** The bytes that a module is read from and written to. */
    private static final class Tape {
        final byte[] bytes = new byte[MAX_TAPE];
        int length;

        int at(int i) {
            return isIn(i, length) && isIn(i, MAX_TAPE) ? bytes[i] & 255 : NONE;
        }

        int pairAt(int i) {
            return at(i) * 256 + at(i + 1);
        }

        void put(int i, int value) {
            if (!isIn(i, MAX_TAPE)) {
                return;
            }
            // What lay behind an earlier end must not come back.
            for (int missing = length; missing < i; missing++) {
                bytes[missing] = 0;
            }
            bytes[i] = (byte) value;
            length = Math.max(length, i + 1);
        }

        void putPair(int i, int value) {
            put(i, value >> 8);
            put(i + 1, value);
        }

        void append(int number) {
            for (int shift = 24; shift >= 0; shift -= 8) {
                put(length, number >> shift);
            }
        }
    }

    /** What is told of a SAMPLE; its bytes lie in the Bank, from the place 'from' on. */
    private static final class Sample {
        int length;
        int tune;
        int volume;
        int start;
        int loop;
        int from;

        static boolean loopFits(int length, int start, int loop) {
            if (start < 0 || loop < 0 || start % 2 != 0 || loop % 2 != 0) {
                return false;
            }
            // As a long, since any two numbers may be told.
            long reach = loops(loop) ? (long) start + loop : start;
            return reach <= length;
        }

        static boolean loops(int loop) {
            return loop > 2;
        }
    }

    /** All SAMPLES: their bytes lie one behind the other, since together they are few. */
    private static final class Bank {
        // Number 0 stands for no SAMPLE: its LENGTH stays 0.
        final Sample[] samples = new Sample[SAMPLES + 1];
        final byte[] bytes = new byte[MAX_ALL_LENGTHS];
        int used;

        Bank() {
            for (int s = 0; s <= SAMPLES; s++) {
                samples[s] = new Sample();
            }
        }

        boolean has(int s) {
            return s >= 1 && s <= SAMPLES;
        }

        Sample get(int s) {
            return samples[has(s) ? s : 0];
        }

        static boolean lengthFits(int length, int others) {
            return length >= 0 && length <= MAX_LENGTH && length % 2 == 0
                    && others + length <= MAX_ALL_LENGTHS;
        }

        boolean canResize(int s, int length) {
            return lengthFits(length, used - get(s).length);
        }

        void clear() {
            for (int s = 0; s <= SAMPLES; s++) {
                samples[s].length = 0;
                samples[s].from = 0;
            }
            used = 0;
        }

        void reshape(int s, int length, int tune, int volume) {
            if (!has(s) || !canResize(s, length)) {
                return;
            }
            Sample told = samples[s];
            int more = length - told.length;
            int oldEnd = told.from + told.length;
            int newEnd = told.from + length;
            System.arraycopy(bytes, oldEnd, bytes, newEnd, used - oldEnd);
            Arrays.fill(bytes, told.from, newEnd, (byte) 0);
            for (int behind = s + 1; behind <= SAMPLES; behind++) {
                samples[behind].from += more;
            }
            used += more;
            told.length = length;
            told.tune = tune;
            told.volume = volume;
            told.start = 0;
            told.loop = 0;
        }

        int getByte(Sample told, int i) {
            int at = told.from + i;
            return isIn(at, MAX_ALL_LENGTHS) ? bytes[at] : 0;
        }

        void putByte(Sample told, int i, int value) {
            int at = told.from + i;
            if (isIn(at, MAX_ALL_LENGTHS)) {
                bytes[at] = (byte) value;
            }
        }
    }

    /** The PATTERNS, and the SONG that is made of them. */
    private static final class Score {
        final int[] cells = new int[PATTERNS * ROWS * CHANNELS];
        final int[] places = new int[PLACES];
        int length = 1;
        int restart;

        static boolean hasCell(int pattern, int row, int channel) {
            return isIn(pattern, PATTERNS) && isIn(row, ROWS) && isIn(channel, CHANNELS);
        }

        int getCell(int pattern, int row, int channel) {
            return hasCell(pattern, row, channel) ? cells[indexOf(pattern, row, channel)] : 0;
        }

        void putCell(int pattern, int row, int channel, int what) {
            if (hasCell(pattern, row, channel)) {
                cells[indexOf(pattern, row, channel)] = what;
            }
        }

        private static int indexOf(int pattern, int row, int channel) {
            return (pattern * ROWS + row) * CHANNELS + channel;
        }

        int patternAt(int place) {
            return isIn(place, PLACES) ? places[place] : 0;
        }

        int countPatterns() {
            int greatest = 0;
            for (int i = 0; i < length && i < PLACES; i++) {
                greatest = Math.max(greatest, places[i]);
            }
            return greatest + 1;
        }

        void clear() {
            Arrays.fill(cells, 0);
            Arrays.fill(places, 0);
        }
    }

    /** Reads a module from the tape, and keeps what was wrong with the latest one. */
    private static final class Reader {
        static final int SAMPLE_BYTES = 30;
        static final int FIRST_SAMPLE_AT = 20;
        static final int LENGTH_AT = 22;
        static final int TUNE_AT = 24;
        static final int VOLUME_AT = 25;
        static final int START_AT = 26;
        static final int LOOP_AT = 28;
        static final int SONG_LENGTH_AT = 950;
        static final int RESTART_AT = 951;
        static final int PLACES_AT = 952;
        static final int MARK_AT = 1080;
        static final int HEAD_BYTES = 1084;
        static final int CELL_BYTES = 4;
        static final int PATTERN_BYTES = ROWS * CHANNELS * CELL_BYTES;
        static final int MARK_BYTES = 4;
        private static final int[] MARK = {77, 46, 75, 46};

        int fault = 0;
        int faultPlace = NONE;

        static int markByte(int i) {
            return isIn(i, MARK_BYTES) ? MARK[i] : NONE;
        }

        static int sampleAt(int s) {
            return FIRST_SAMPLE_AT + SAMPLE_BYTES * (s - 1);
        }

        static int cellAt(int pattern, int row, int channel) {
            return patternsEnd(pattern) + (row * CHANNELS + channel) * CELL_BYTES;
        }

        static int patternsEnd(int patterns) {
            return HEAD_BYTES + PATTERN_BYTES * patterns;
        }

        boolean accepts(Tape tape) {
            if (tape.length < HEAD_BYTES) {
                return refuse(1, tape.length);
            }
            int wrong = wrongMark(tape);
            if (wrong != NONE) {
                return refuse(2, wrong);
            }
            wrong = wrongSample(tape);
            if (wrong == NONE) {
                wrong = wrongSong(tape);
            }
            if (wrong != NONE) {
                return refuse(3, wrong);
            }
            if (tape.length < bytesNeeded(tape)) {
                return refuse(4, tape.length);
            }
            fault = 0;
            faultPlace = NONE;
            return true;
        }

        private boolean refuse(int kind, int place) {
            fault = kind;
            faultPlace = place;
            return false;
        }

        private static int wrongMark(Tape tape) {
            for (int i = 0; i < MARK_BYTES; i++) {
                if (tape.at(MARK_AT + i) != markByte(i)) {
                    return MARK_AT + i;
                }
            }
            return NONE;
        }

        private static int wrongSample(Tape tape) {
            int ahead = 0;
            for (int s = 1; s <= SAMPLES; s++) {
                int at = sampleAt(s);
                int length = 2 * tape.pairAt(at + LENGTH_AT);
                if (!Bank.lengthFits(length, ahead)) {
                    return at + LENGTH_AT;
                }
                ahead += length;
                if (tape.at(at + TUNE_AT) > 15) {
                    return at + TUNE_AT;
                }
                if (tape.at(at + VOLUME_AT) > MAX_VOLUME) {
                    return at + VOLUME_AT;
                }
                int start = 2 * tape.pairAt(at + START_AT);
                int loop = 2 * tape.pairAt(at + LOOP_AT);
                if (!Sample.loopFits(length, start, loop)) {
                    return at + START_AT;
                }
            }
            return NONE;
        }

        private static int wrongSong(Tape tape) {
            int length = tape.at(SONG_LENGTH_AT);
            if (length < 1 || length > PLACES) {
                return SONG_LENGTH_AT;
            }
            for (int i = 0; i < length; i++) {
                if (tape.at(PLACES_AT + i) >= PATTERNS) {
                    return PLACES_AT + i;
                }
            }
            return NONE;
        }

        private static int bytesNeeded(Tape tape) {
            int length = tape.at(SONG_LENGTH_AT);
            int greatest = 0;
            for (int i = 0; i < length && i < PLACES; i++) {
                greatest = Math.max(greatest, tape.at(PLACES_AT + i));
            }
            int needed = patternsEnd(greatest + 1);
            for (int s = 1; s <= SAMPLES; s++) {
                needed += 2 * tape.pairAt(sampleAt(s) + LENGTH_AT);
            }
            return needed;
        }

        static void readSong(Tape tape, Score score) {
            score.clear();
            score.length = tape.at(SONG_LENGTH_AT);
            score.restart = tape.at(RESTART_AT);
            for (int i = 0; i < score.length && i < PLACES; i++) {
                score.places[i] = tape.at(PLACES_AT + i);
            }
            int patterns = score.countPatterns();
            for (int pattern = 0; pattern < patterns; pattern++) {
                readPattern(tape, score, pattern);
            }
        }

        private static void readPattern(Tape tape, Score score, int pattern) {
            for (int row = 0; row < ROWS; row++) {
                for (int channel = 0; channel < CHANNELS; channel++) {
                    int at = cellAt(pattern, row, channel);
                    score.putCell(pattern, row, channel, readCell(tape, at));
                }
            }
        }

        private static int readCell(Tape tape, int at) {
            int first = tape.at(at);
            int third = tape.at(at + 2);
            int period = (first & 15) << 8 | tape.at(at + 1);
            int sample = (first & 240 | third >> 4) & 31;
            return period << 17 | sample << 12 | (third & 15) << 8 | tape.at(at + 3);
        }

        static void readSamples(Tape tape, Bank bank, int bytesAt) {
            bank.clear();
            int next = bytesAt;
            for (int s = 1; s <= SAMPLES; s++) {
                int at = sampleAt(s);
                int length = 2 * tape.pairAt(at + LENGTH_AT);
                int tune = tape.at(at + TUNE_AT);
                bank.reshape(s, length, tune > 7 ? tune - 16 : tune, tape.at(at + VOLUME_AT));
                Sample told = bank.get(s);
                told.start = 2 * tape.pairAt(at + START_AT);
                told.loop = 2 * tape.pairAt(at + LOOP_AT);
                for (int i = 0; i < length; i++) {
                    bank.putByte(told, i, tape.at(next + i));
                }
                next += length;
            }
        }
    }

    /** Writes a module to an empty tape, at the places that the Reader reads. */
    private static final class Writer {
        static void writeSong(Tape tape, Score score) {
            tape.put(Reader.SONG_LENGTH_AT, score.length);
            tape.put(Reader.RESTART_AT, score.restart);
            for (int i = 0; i < score.length && i < PLACES; i++) {
                tape.put(Reader.PLACES_AT + i, score.places[i]);
            }
            for (int i = 0; i < Reader.MARK_BYTES; i++) {
                tape.put(Reader.MARK_AT + i, Reader.markByte(i));
            }
            int patterns = score.countPatterns();
            for (int pattern = 0; pattern < patterns; pattern++) {
                writePattern(tape, score, pattern);
            }
        }

        private static void writePattern(Tape tape, Score score, int pattern) {
            for (int row = 0; row < ROWS; row++) {
                for (int channel = 0; channel < CHANNELS; channel++) {
                    int at = Reader.cellAt(pattern, row, channel);
                    writeCell(tape, at, score.getCell(pattern, row, channel));
                }
            }
        }

        private static void writeCell(Tape tape, int at, int cell) {
            int period = cell >> 17;
            int sample = cell >> 12 & 31;
            tape.put(at, sample & 16 | period >> 8);
            tape.put(at + 1, period & 255);
            tape.put(at + 2, (sample & 15) << 4 | cell >> 8 & 15);
            tape.put(at + 3, cell & 255);
        }

        static void writeSamples(Tape tape, Bank bank, int bytesAt) {
            int next = bytesAt;
            for (int s = 1; s <= SAMPLES; s++) {
                int at = Reader.sampleAt(s);
                Sample told = bank.get(s);
                tape.putPair(at + Reader.LENGTH_AT, told.length / 2);
                tape.put(at + Reader.TUNE_AT, told.tune & 15);
                tape.put(at + Reader.VOLUME_AT, told.volume);
                tape.putPair(at + Reader.START_AT, told.start / 2);
                tape.putPair(at + Reader.LOOP_AT, told.loop / 2);
                for (int i = 0; i < told.length; i++) {
                    tape.put(next + i, bank.getByte(told, i));
                }
                next += told.length;
            }
        }
    }

    /** Where PLAYING is, and where the ROW's CELLS want it to go. */
    private static final class Flow {
        final Score score;
        // For each place a bit for each of its 64 ROWS: whether it was begun.
        final long[] begun = new long[PLACES];
        int speed;
        int tempo;
        int place;
        int row;
        int tick;
        int ticks;
        int again;
        int delay;
        int jump;
        int breakRow;
        int loopRow;

        Flow(Score score) {
            this.score = score;
        }

        void rewind() {
            Arrays.fill(begun, 0L);
            speed = 6;
            tempo = 125;
            place = 0;
            row = 0;
            tick = 0;
            ticks = 0;
            again = 0;
            forgetTurns();
        }

        private void forgetTurns() {
            delay = 0;
            jump = NONE;
            breakRow = NONE;
            loopRow = NONE;
        }

        void step(Channel[] channels) {
            if (ticks == 0) {
                beginRow(channels);
            } else if (tick + 1 < speed * (1 + delay)) {
                tick++;
            } else {
                // Only now, so that what was told of the SONG since the last TICK holds.
                moveOn();
                beginRow(channels);
            }
            ticks++;
        }

        private void moveOn() {
            if (loopRow != NONE) {
                row = loopRow;
            } else if (jump != NONE || breakRow != NONE) {
                place = placeOfTurn();
                row = breakRow == NONE ? 0 : breakRow;
            } else if (row < ROWS - 1) {
                row++;
            } else {
                row = 0;
                place++;
            }
            if (place >= score.length) {
                place = score.restart < score.length ? score.restart : 0;
            }
        }

        private int placeOfTurn() {
            if (jump == NONE) {
                return place + 1;
            }
            return jump < score.length ? jump : 0;
        }

        private void beginRow(Channel[] channels) {
            tick = 0;
            forgetTurns();
            noteBegun(isLooping(channels));
            int pattern = score.patternAt(place);
            for (int c = 0; c < channels.length; c++) {
                channels[c].cell = score.getCell(pattern, row, c);
            }
        }

        private static boolean isLooping(Channel[] channels) {
            for (int c = 0; c < channels.length; c++) {
                if (channels[c].loopLeft > 0) {
                    return true;
                }
            }
            return false;
        }

        private void noteBegun(boolean looping) {
            if (!isIn(place, PLACES)) {
                return;
            }
            long bit = 1L << row;
            if (!looping && (begun[place] & bit) != 0) {
                again++;
            }
            begun[place] |= bit;
        }
    }

    /** What a CHANNEL keeps of a vibrato or of a tremolo: VIB or TREM, its place and its form. */
    private static final class Wobble {
        int speed;
        int depth;
        int place;
        int form;

        void rewind() {
            speed = 0;
            depth = 0;
            place = 0;
            form = 0;
        }

        void tell(int x, int y) {
            if (x != 0) {
                speed = x;
            }
            if (y != 0) {
                depth = y;
            }
        }

        int swing() {
            int q = place % 32;
            int height;
            switch (form) {
                case 1: height = 8 * q; break;
                case 2: height = 255; break;
                default: height = 255 * q * (32 - q) / 256; break;
            }
            return (place < 32 ? height : -height) * depth;
        }

        void advance() {
            place = (place + speed) % 64;
        }
    }

    /** A CHANNEL: what it keeps, what its CELL does to it on each TICK, and its next byte. */
    private static final class Channel {
        final Bank bank;
        final Wobble vibrato = new Wobble();
        final Wobble tremolo = new Wobble();
        int cell;
        int sample;
        int volume;
        int tune;
        int period;
        int notePeriod;
        int target;
        int porta;
        int offset;
        int loopRow;
        int loopLeft;
        int heardPeriod;
        int heardVolume;
        long place;
        boolean sounds;
        boolean muted;

        Channel(Bank bank) {
            this.bank = bank;
        }

        /** All but MUTE, which stays. */
        void rewind() {
            vibrato.rewind();
            tremolo.rewind();
            cell = 0;
            sample = 0;
            volume = 0;
            tune = 0;
            period = 0;
            notePeriod = 0;
            target = 0;
            porta = 0;
            offset = 0;
            loopRow = 0;
            loopLeft = 0;
            heardPeriod = 0;
            heardVolume = 0;
            place = 0;
            sounds = false;
        }

        private int cellPeriod() {
            return cell >> 17;
        }

        private int effect() {
            return cell >> 8 & 15;
        }

        private int number() {
            return cell & 255;
        }

        private int x() {
            return cell >> 4 & 15;
        }

        private int y() {
            return cell & 15;
        }

        void act(Flow flow) {
            int tick = flow.tick;
            if (tick == noteTick()) {
                takeNote();
            }
            if (tick == 0) {
                actFirst(flow);
            } else {
                actLater();
            }
            if (effect() == 14) {
                actTimed(tick);
            }
            heardPeriod = period;
            heardVolume = volume;
            if (tick != 0 && period != 0) {
                bend(tick);
            }
        }

        private int noteTick() {
            return effect() == 14 && x() == 13 ? y() : 0;
        }

        private void takeNote() {
            int told = cell >> 12 & 31;
            if (told > 0) {
                sample = told;
                volume = bank.get(told).volume;
                tune = bank.get(told).tune;
            }
            if (cellPeriod() == 0) {
                return;
            }
            if (effect() == 3 || effect() == 5) {
                target = tuned(cellPeriod());
                return;
            }
            period = tuned(cellPeriod());
            notePeriod = period;
            strike();
            vibrato.place = 0;
            tremolo.place = 0;
        }

        private int tuned(int told) {
            return limit(told - told * tune / 138, LEAST_PERIOD, GREATEST_PERIOD);
        }

        private void strike() {
            place = 0;
            sounds = bank.get(sample).length > 0;
        }

        private void actFirst(Flow flow) {
            switch (effect()) {
                case 3: porta = number() == 0 ? porta : number(); break;
                case 4: vibrato.tell(x(), y()); break;
                case 7: tremolo.tell(x(), y()); break;
                case 9: takeOffset(); break;
                case 11: flow.jump = number(); break;
                case 12: volume = Math.min(number(), MAX_VOLUME); break;
                case 13: flow.breakRow = rowOfBreak(); break;
                case 14: actExtended(flow); break;
                case 15: takePace(flow); break;
                default: break;
            }
        }

        private void takeOffset() {
            if (number() != 0) {
                offset = number();
            }
            if (cellPeriod() == 0) {
                return;
            }
            place = (long) offset * 256 * 65536;
            if (offset * 256 >= bank.get(sample).length) {
                sounds = false;
            }
        }

        private int rowOfBreak() {
            int told = 10 * x() + y();
            return told < ROWS ? told : 0;
        }

        private void takePace(Flow flow) {
            if (number() >= LEAST_TEMPO) {
                flow.tempo = number();
            } else if (number() > 0) {
                flow.speed = number();
            }
        }

        private void actExtended(Flow flow) {
            switch (x()) {
                case 1: slidePeriod(-y()); break;
                case 2: slidePeriod(y()); break;
                case 4: vibrato.form = y() % 4; break;
                case 5: tune = y() > 7 ? y() - 16 : y(); break;
                case 6: repeatRows(flow); break;
                case 7: tremolo.form = y() % 4; break;
                case 10: slideVolume(y()); break;
                case 11: slideVolume(-y()); break;
                case 14: flow.delay = y(); break;
                default: break;
            }
        }

        private void repeatRows(Flow flow) {
            if (y() == 0) {
                loopRow = flow.row;
                return;
            }
            loopLeft = loopLeft == 0 ? y() : loopLeft - 1;
            if (loopLeft != 0) {
                flow.loopRow = loopRow;
            }
        }

        private void slidePeriod(int more) {
            if (period != 0) {
                period = limit(period + more, LEAST_PERIOD, GREATEST_PERIOD);
            }
        }

        private void slideVolume(int more) {
            volume = limit(volume + more, 0, MAX_VOLUME);
        }

        private void actLater() {
            switch (effect()) {
                case 1: slidePeriod(-number()); break;
                case 2: slidePeriod(number()); break;
                case 3: goToTarget(); break;
                case 5: goToTarget(); slideVolumeByNumber(); break;
                case 6: slideVolumeByNumber(); break;
                case 10: slideVolumeByNumber(); break;
                default: break;
            }
        }

        private void goToTarget() {
            if (target != 0) {
                slidePeriod(limit(target - period, -porta, porta));
            }
        }

        private void slideVolumeByNumber() {
            slideVolume(x() != 0 ? x() : -y());
        }

        /** The acts of EFFECT 14 that wait for a TICK, which may be TICK 0. */
        private void actTimed(int tick) {
            boolean struckAlready = tick == 0 && cellPeriod() != 0;
            if (x() == 9 && y() != 0 && tick % y() == 0 && !struckAlready) {
                strike();
            }
            if (x() == 12 && tick == y()) {
                volume = 0;
            }
        }

        /** What changes the sound of this TICK alone. */
        private void bend(int tick) {
            switch (effect()) {
                case 0: heardPeriod = arpeggio(tick % 3); break;
                case 4: vibrate(); break;
                case 6: vibrate(); break;
                case 7: tremble(); break;
                default: break;
            }
        }

        private int arpeggio(int step) {
            if (number() == 0 || step == 0) {
                return period;
            }
            int halfTones = step == 1 ? x() : y();
            int higher = notePeriod;
            for (int i = 0; i < halfTones; i++) {
                higher = higher * 17843 / 18904;
            }
            return Math.max(higher, LEAST_HEARD_PERIOD);
        }

        private void vibrate() {
            heardPeriod = Math.max(period + vibrato.swing() / 128, LEAST_HEARD_PERIOD);
            vibrato.advance();
        }

        private void tremble() {
            heardVolume = limit(volume + tremolo.swing() / 64, 0, MAX_VOLUME);
            tremolo.advance();
        }

        /** The byte for this FRAME; the PLACE goes on by a step, or the CHANNEL falls silent. */
        int nextByte(long step) {
            Sample told = bank.get(sample);
            long end = told.length * 65536L;
            if (place >= end) {
                sounds = false;
                return 0;
            }
            int value = bank.getByte(told, (int) (place >> 16));
            place += step;
            if (Sample.loops(told.loop)) {
                place = wrapped(told);
            } else if (place >= end) {
                sounds = false;
            }
            return value;
        }

        private long wrapped(Sample told) {
            long start = told.start * 65536L;
            long loop = told.loop * 65536L;
            if (loop <= 0 || place < start + loop) {
                return place;
            }
            return start + (place - start) % loop;
        }
    }

    /** Mixes TICKS to FRAMES, and keeps those of the latest one and the SUM of all. */
    private static final class Mixer {
        final int rate;
        final int[] left;
        final int[] right;
        int frames;
        int sum;

        Mixer(int rate) {
            this.rate = rate;
            int most = Math.max(0, rate * 5 / (2 * LEAST_TEMPO));
            left = new int[most];
            right = new int[most];
        }

        void rewind() {
            frames = 0;
            sum = 17;
        }

        void mix(Channel[] channels, int tempo) {
            frames = tempo > 0 ? Math.min(rate * 5 / (2 * tempo), left.length) : 0;
            Arrays.fill(left, 0, frames, 0);
            Arrays.fill(right, 0, frames, 0);
            for (int c = 0; c < channels.length; c++) {
                addChannel(channels[c], c == 0 || c == 3 ? left : right);
            }
            for (int i = 0; i < frames; i++) {
                sum = 31 * sum + left[i];
                sum = 31 * sum + right[i];
            }
        }

        private void addChannel(Channel channel, int[] side) {
            if (channel.heardPeriod <= 0 || rate <= 0) {
                return;
            }
            long step = 3546895L * 65536 / ((long) channel.heardPeriod * rate);
            int volume = channel.muted ? 0 : channel.heardVolume;
            for (int i = 0; i < frames && i < side.length && channel.sounds; i++) {
                side[i] += channel.nextByte(step) * volume;
            }
        }
    }
}
