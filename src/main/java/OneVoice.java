import java.util.Arrays;

/** His voice at one platform: the face of the document; the classes inside each hold one part of it. */
public final class OneVoice {
    public static final int NONE = -1, UNKNOWN = -2, OUTSIDE = -3, NOT = -4, FULL = -5;

    private static final int VOICES = 4;
    private static final int TONES = 100;
    private static final int PAUSE = 16;
    private static final int MOST_PIECES = 16;
    private static final int MOST_SOUNDS = 8;
    private static final int MOST_ROW = 16;
    private static final int MODULUS = 1000000007;
    /** Far above every jar: what cannot be said. */
    private static final int FAR = 1000000;

    private static final int WORDS = 32;
    private static final int FIRST_NAME = 28;
    private static final int LINES = 8;
    private static final int MOST_PARTS = 8;
    /** A part of a line that is no word, but the number told with the line: beyond all that two digits tell. */
    private static final int NUMBER = 100;
    private static final int NUMBERS = 100;
    /** Each part may be a number of two words. */
    private static final int MOST_SPOKEN = 16;

    private static final int MOST_BYTES = 200;
    private static final int MOST_ROWS = 10;
    private static final int CUTS = 100;

    private static final int PLATFORMS = 6;
    private static final int MOST_CALLS = 24;
    private static final int LAST_TICK = 2000;
    private static final int LAST_STALE = 3000;
    private static final int MOST_TICKS = 100;
    private static final int MOST_CHANGES = 5;

    private static final int SPOTS = 16;
    private static final int CROWDS = 100;
    private static final int POWERS = 1000;

    private final Stock stock;
    private final Sayer sayer;
    private final Lexicon lexicon;
    private final Text text;
    private final Station station;
    private final Recorder recorder;
    private final Loudness loudness;

    public OneVoice() {
        Stock pieces = new Stock();
        Sayer mouth = new Sayer(pieces);
        Lexicon words = new Lexicon();
        stock = pieces;
        sayer = mouth;
        lexicon = words;
        text = new Text();
        station = new Station(words, mouth);
        recorder = new Recorder(words);
        loudness = new Loudness();
    }

    // ---- pieces

    public int piece(int sounds, int n, int begin, int end, int voice) {
        if (!within(n, 1, MOST_SOUNDS) || !below(begin, TONES) || !below(end, TONES) || !below(voice, VOICES)) {
            return OUTSIDE;
        }
        if (stock.size >= MOST_PIECES) {
            return FULL;
        }
        return stock.add(new Piece(sounds, n, begin, end, voice));
    }

    public int worn(int piece, int set) {
        if (!below(piece, stock.size)) {
            return UNKNOWN;
        }
        if (!below(set, 1 << stock.pieces[piece].size)) {
            return OUTSIDE;
        }
        return stock.wear(piece, set);
    }

    public int of(int piece, int place, int what) {
        if (!below(piece, stock.size) || !below(place, stock.pieces[piece].size)) {
            return UNKNOWN;
        }
        Piece one = stock.pieces[piece];
        switch (what) {
            case 0:
                return one.soundAt(place);
            case 1:
                return one.tones[place];
            case 2:
                return one.wearAt(place);
            default:
                return OUTSIDE;
        }
    }

    public int lost() {
        return stock.lostInAll();
    }

    public int said(int voice, long sounds, int n, int what) {
        if (!below(voice, VOICES) || !within(n, 1, MOST_ROW) || !below(what, 2)) {
            return OUTSIDE;
        }
        sayer.weigh(voice, sounds, n);
        return what == 0 ? sayer.leastJar() : sayer.ways;
    }

    public int bit(int voice, long sounds, int n, int i) {
        if (!below(voice, VOICES) || !within(n, 1, MOST_ROW) || i < -1) {
            return OUTSIDE;
        }
        sayer.weigh(voice, sounds, n);
        sayer.findFirst();
        if (sayer.firstSize == 0) {
            return NONE;
        }
        if (i == -1) {
            return sayer.firstSize;
        }
        return i < sayer.firstSize ? sayer.first[i] : NONE;
    }

    // ---- words, lines

    public int write(long bytes, int n) {
        if (!within(n, 1, 8)) {
            return OUTSIDE;
        }
        if (text.size + n > MOST_BYTES) {
            return FULL;
        }
        return text.append(bytes, n);
    }

    public int erase() {
        return text.empty();
    }

    public int fault() {
        return text.read();
    }

    public int told() {
        if (text.read() != NONE) {
            return NOT;
        }
        int rows = text.rowCount;
        for (int i = 0; i < rows; i++) {
            follow(text.rows[i]);
        }
        text.empty();
        return rows;
    }

    public int word(int word, int i) {
        if (!below(word, WORDS)) {
            return UNKNOWN;
        }
        if (i < -1) {
            return OUTSIDE;
        }
        if (i == -1) {
            return lexicon.wordSizes[word];
        }
        return i < lexicon.wordSizes[word] ? lexicon.soundOf(word, i) : NONE;
    }

    public int line(int line, int v, int i) {
        if (!lexicon.knows(line)) {
            return UNKNOWN;
        }
        if (!below(v, NUMBERS) || i < -1) {
            return OUTSIDE;
        }
        if (!lexicon.spell(line, v)) {
            return NOT;
        }
        return i == -1 ? lexicon.spokenLength() : lexicon.spokenSound(i);
    }

    public int jar(int line, int v, int voice) {
        if (!lexicon.knows(line)) {
            return UNKNOWN;
        }
        if (!below(v, NUMBERS) || !below(voice, VOICES)) {
            return OUTSIDE;
        }
        if (!lexicon.spell(line, v)) {
            return NOT;
        }
        return sayer.jarOfWords(lexicon, voice);
    }

    // ---- platforms

    public int call(int platform, int line, int v, int ready, int stale, boolean danger) {
        if (!below(platform, PLATFORMS) || !lexicon.knows(line)) {
            return UNKNOWN;
        }
        if (!below(v, NUMBERS) || !within(ready, 0, LAST_TICK) || !within(stale, ready + 1, LAST_STALE)) {
            return OUTSIDE;
        }
        if (station.size >= MOST_CALLS) {
            return FULL;
        }
        Call fresh = new Call(platform, line, v, danger);
        fresh.ready = ready;
        fresh.stale = stale;
        return station.add(fresh);
    }

    public int run(int n) {
        if (!within(n, 1, MOST_TICKS) || station.ticks + n > LAST_TICK) {
            return OUTSIDE;
        }
        for (int i = 0; i < n; i++) {
            station.tick();
        }
        return station.ticks;
    }

    public int heard(int call, int what) {
        if (!below(call, station.size)) {
            return UNKNOWN;
        }
        Call one = station.calls[call];
        switch (what) {
            case 0:
                return one.state;
            case 1:
                return one.soundsSaid;
            case 2:
                return one.began;
            default:
                return OUTSIDE;
        }
    }

    public int speaks(int platform) {
        return below(platform, PLATFORMS) ? station.speaking[platform] : UNKNOWN;
    }

    public int voice(int platform, int what) {
        if (!below(platform, PLATFORMS)) {
            return UNKNOWN;
        }
        if (!below(what, 2)) {
            return OUTSIDE;
        }
        return what == 0 ? station.voices[platform] : station.wishes[platform];
    }

    public int wish(int platform, int voice, int n) {
        if (!below(platform, PLATFORMS)) {
            return UNKNOWN;
        }
        if (!below(voice, VOICES) || !within(n, 1, MOST_CHANGES)) {
            return OUTSIDE;
        }
        int had = station.voices[platform];
        station.voices[platform] = voice;
        station.wishes[platform] = n;
        return had;
    }

    public int change(int voice) {
        return below(voice, VOICES) ? station.giveAll(voice) : OUTSIDE;
    }

    // ---- a new voice, loudness

    public int record() {
        return recorder.fewestLines();
    }

    public int crowd(int spot, int v) {
        if (!below(spot, SPOTS)) {
            return UNKNOWN;
        }
        if (!below(v, CROWDS)) {
            return OUTSIDE;
        }
        int was = loudness.crowds[spot];
        loudness.crowds[spot] = v;
        return was;
    }

    public int understood(int spot, int v) {
        if (!below(spot, SPOTS)) {
            return UNKNOWN;
        }
        return below(v, POWERS) ? loudness.reached(spot, v) : OUTSIDE;
    }

    public int power(int spot, int set) {
        if (spot != NONE && !below(spot, SPOTS)) {
            return UNKNOWN;
        }
        if (!below(set, 1 << SPOTS)) {
            return OUTSIDE;
        }
        return spot == NONE ? loudness.bestSpot(set) : loudness.leastPower(spot, set);
    }

    public int count(int what) {
        switch (what) {
            case 0:
                return stock.size;
            case 1:
                return text.size;
            case 2:
                return howManyTold(lexicon.wordSizes);
            case 3:
                return howManyTold(lexicon.lineSizes);
            case 4:
                return sayer.cutCost;
            case 5:
                return station.size;
            case 6:
                return station.ticks;
            default:
                return OUTSIDE;
        }
    }

    /** Does what a row of the text tells. */
    private void follow(Row row) {
        switch (row.kind) {
            case Row.WORD:
                lexicon.tellWord(row);
                break;
            case Row.LINE:
                lexicon.tellLine(row);
                break;
            case Row.CUT:
                sayer.cutCost = row.subject;
                break;
            case Row.NEAR:
                station.join(row.subject, row.items[0]);
                break;
            case Row.FAR_OFF:
                station.part(row.subject, row.items[0]);
                break;
            default:
                break;
        }
    }

    /** Words and lines have one sound or part at least: those of size 0 are not told. */
    private static int howManyTold(int[] sizes) {
        int told = 0;
        for (int i = 0; i < sizes.length; i++) {
            if (sizes[i] > 0) {
                told++;
            }
        }
        return told;
    }

    private static boolean below(int value, int bound) {
        return value >= 0 && value < bound;
    }

    private static boolean within(int value, int least, int most) {
        return value >= least && value <= most;
    }

    /** A recorded row of sounds with its tones, and what is worn of it. */
    private static final class Piece {
        final int sounds;
        final int size;
        final int voice;
        final int[] tones;
        int wornPlaces;
        /** Worn places that no double mends: kept by the stock, as other pieces decide on it. */
        int lostPlaces;

        Piece(int sounds, int size, int begin, int end, int voice) {
            // bits behind the last sound would make like rows unlike
            this.sounds = size < MOST_SOUNDS ? sounds & ((1 << (4 * size)) - 1) : sounds;
            this.size = size;
            this.voice = voice;
            tones = new int[MOST_SOUNDS];
            tones[0] = begin;
            for (int i = 1; i < size && i < MOST_SOUNDS; i++) {
                tones[i] = begin + i * (end - begin) / (size - 1);
            }
        }

        int soundAt(int place) {
            return (sounds >>> (4 * place)) & 15;
        }

        /** 0 not worn, 1 mended, 2 lost. */
        int wearAt(int place) {
            return ((wornPlaces >>> place) & 1) + ((lostPlaces >>> place) & 1);
        }

        boolean isDoubleOf(Piece other) {
            return voice == other.voice && size == other.size && sounds == other.sounds;
        }

        boolean says(int place, int sound) {
            return ((sounds >>> (4 * place)) & 15) == sound && ((lostPlaces >>> place) & 1) == 0;
        }

        int cutsAtBegin(int place) {
            return place == 0 ? 0 : 1;
        }

        int cutsAtEnd(int place) {
            return place == size - 1 ? 0 : 1;
        }
    }

    /** All pieces that there are. */
    private static final class Stock {
        final Piece[] pieces = new Piece[MOST_PIECES];
        int size;

        int add(Piece fresh) {
            pieces[size] = fresh;
            size++;
            mend();
            return size - 1;
        }

        int wear(int piece, int set) {
            int were = pieces[piece].wornPlaces;
            pieces[piece].wornPlaces = set;
            mend();
            return were;
        }

        int lostInAll() {
            int lost = 0;
            for (int i = 0; i < size; i++) {
                lost += Integer.bitCount(pieces[i].lostPlaces);
            }
            return lost;
        }

        /** A place is lost if it is worn in the piece and in all its doubles. */
        private void mend() {
            for (int i = 0; i < size; i++) {
                int lost = pieces[i].wornPlaces;
                for (int j = 0; j < size; j++) {
                    if (pieces[j].isDoubleOf(pieces[i])) {
                        lost &= pieces[j].wornPlaces;
                    }
                }
                pieces[i].lostPlaces = lost;
            }
        }
    }

    /**
     * Says a row of sounds with the least jar. It goes from the row's end to its begin: what is left costs only
     * by the tone that was heard last, so each place of the row needs no more than one sum for each tone in use.
     */
    private static final class Sayer {
        final Stock stock;
        final int[] row = new int[MOST_ROW];
        int rowSize;
        int voice;
        int cutCost = 5;
        /** The tones that pieces of the voice have, from the lowest on: no other is ever heard. */
        final int[] used = new int[TONES];
        int usedSize;
        final int[] marks = new int[TONES];
        /** By place and tone: least jar of the row from that place on, behind a bit that ended with that tone. */
        final int[] rest = new int[(MOST_ROW + 1) * TONES];
        final int[] restWays = new int[(MOST_ROW + 1) * TONES];
        /** By piece and its place: least jar from this place of the row on, if a bit has come here already. */
        final int[] inside = new int[MOST_PIECES * MOST_SOUNDS];
        final int[] insideWays = new int[MOST_PIECES * MOST_SOUNDS];
        /** By tone: least jar from this place of the row on, if a bit begins here with that tone. */
        final int[] begun = new int[TONES];
        final int[] begunWays = new int[TONES];
        int least;
        int ways;
        final int[] first = new int[MOST_ROW];
        int firstSize;

        Sayer(Stock stock) {
            this.stock = stock;
        }

        int leastJar() {
            return least < FAR ? least : NONE;
        }

        /** Jars of the words that were spelled last, each by itself, together; NONE: one cannot be said. */
        int jarOfWords(Lexicon lexicon, int voice) {
            int sum = 0;
            for (int i = 0; i < lexicon.spokenSize; i++) {
                int word = lexicon.spoken[i];
                weigh(voice, lexicon.wordSounds[word], lexicon.wordSizes[word]);
                if (least >= FAR) {
                    return NONE;
                }
                sum += least;
            }
            return sum;
        }

        void weigh(int voice, long sounds, int n) {
            this.voice = voice;
            rowSize = n;
            for (int i = 0; i < n && i < MOST_ROW; i++) {
                row[i] = (int) (sounds >>> (4 * i)) & 15;
            }
            gatherTones();
            Arrays.fill(inside, FAR);
            Arrays.fill(insideWays, 0);
            for (int i = 0; i < usedSize; i++) {
                rest[n * TONES + used[i]] = 0;
                restWays[n * TONES + used[i]] = 1;
            }
            for (int at = n - 1; at >= 0; at--) {
                for (int i = 0; i < usedSize; i++) {
                    begun[used[i]] = FAR;
                    begunWays[used[i]] = 0;
                }
                for (int i = 0; i < stock.size; i++) {
                    if (stock.pieces[i].voice == voice) {
                        weighPiece(i, at);
                    }
                }
                if (at > 0) {
                    carryUp(at * TONES);
                    carryDown(at * TONES);
                }
            }
            sumUp();
        }

        private void gatherTones() {
            Arrays.fill(marks, 0);
            for (int i = 0; i < stock.size; i++) {
                Piece piece = stock.pieces[i];
                for (int place = 0; place < piece.size && piece.voice == voice; place++) {
                    marks[piece.tones[place]] = 1;
                }
            }
            usedSize = 0;
            for (int tone = 0; tone < TONES; tone++) {
                if (marks[tone] == 1) {
                    used[usedSize] = tone;
                    usedSize++;
                }
            }
        }

        /** Goes upwards in the piece: the next place's sum is still that of the row's next place. */
        private void weighPiece(int number, int at) {
            Piece piece = stock.pieces[number];
            for (int place = 0; place < piece.size; place++) {
                int here = number * MOST_SOUNDS + place;
                inside[here] = FAR;
                insideWays[here] = 0;
                if (piece.says(place, row[at])) {
                    int tone = piece.tones[place];
                    int left = (at + 1) * TONES + tone;
                    offer(inside, insideWays, here, rest[left] + piece.cutsAtEnd(place) * cutCost, restWays[left]);
                    if (place + 1 < piece.size) {
                        offer(inside, insideWays, here, inside[here + 1], insideWays[here + 1]);
                    }
                    int jar = inside[here] + piece.cutsAtBegin(place) * cutCost;
                    offer(begun, begunWays, tone, jar, insideWays[here]);
                }
            }
        }

        /** Bits that begin with the last bit's tone or a lower one. */
        private void carryUp(int base) {
            for (int i = 0; i < usedSize; i++) {
                int tone = used[i];
                rest[base + tone] = begun[tone];
                restWays[base + tone] = begunWays[tone];
                if (i > 0) {
                    int lower = used[i - 1];
                    offer(rest, restWays, base + tone, rest[base + lower] + tone - lower, restWays[base + lower]);
                }
            }
        }

        /** Bits that begin with a higher tone: begun gathers them, so that none is taken twice. */
        private void carryDown(int base) {
            for (int i = usedSize - 2; i >= 0; i--) {
                int tone = used[i];
                int higher = used[i + 1];
                int jar = begun[higher] + higher - tone;
                offer(rest, restWays, base + tone, jar, begunWays[higher]);
                offer(begun, begunWays, tone, jar, begunWays[higher]);
            }
        }

        private void sumUp() {
            least = FAR;
            ways = 0;
            for (int i = 0; i < usedSize; i++) {
                int tone = used[i];
                if (begun[tone] < least) {
                    least = begun[tone];
                    ways = begunWays[tone];
                } else if (begun[tone] == least) {
                    ways = (ways + begunWays[tone]) % MODULUS;
                }
            }
        }

        private static void offer(int[] jars, int[] counts, int at, int jar, int more) {
            if (jar >= FAR) {
                return;
            }
            if (jar < jars[at]) {
                jars[at] = jar;
                counts[at] = more;
            } else if (jar == jars[at]) {
                counts[at] = (counts[at] + more) % MODULUS;
            }
        }

        /** The first of the best rows of bits, for the row that was weighed last. */
        void findFirst() {
            firstSize = 0;
            if (least >= FAR) {
                return;
            }
            int at = 0;
            int tone = NONE;
            int due = least;
            while (at < rowSize && firstSize < MOST_ROW) {
                int found = firstBit(at, tone, due);
                if (found == NONE) {
                    return;
                }
                first[firstSize] = found;
                firstSize++;
                int many = found & 15;
                tone = stock.pieces[found >>> 8].tones[((found >>> 4) & 15) + many - 1];
                at += many;
                due = rest[at * TONES + tone];
            }
        }

        /** The first bit at a place of the row with which what is left costs just what is due. */
        private int firstBit(int at, int tone, int due) {
            for (int i = 0; i < stock.size; i++) {
                Piece piece = stock.pieces[i];
                for (int from = 0; from < piece.size && piece.voice == voice; from++) {
                    int paid = piece.cutsAtBegin(from) * cutCost;
                    if (tone != NONE) {
                        paid += Math.abs(tone - piece.tones[from]);
                    }
                    int many = fewest(piece, from, at, due - paid);
                    if (many > 0) {
                        return 256 * i + 16 * from + many;
                    }
                }
            }
            return NONE;
        }

        private int fewest(Piece piece, int from, int at, int due) {
            for (int i = 0; from + i < piece.size && at + i < rowSize; i++) {
                int place = from + i;
                if (!piece.says(place, row[at + i])) {
                    return 0;
                }
                int left = (at + i + 1) * TONES + piece.tones[place];
                if (rest[left] + piece.cutsAtEnd(place) * cutCost == due) {
                    return i + 1;
                }
            }
            return 0;
        }
    }

    /** The words and lines that were told. */
    private static final class Lexicon {
        final int[] wordSounds = new int[WORDS];
        final int[] wordSizes = new int[WORDS];
        final int[] lineParts = new int[LINES * MOST_PARTS];
        final int[] lineSizes = new int[LINES];
        /** The words of the line that was spelled last. */
        final int[] spoken = new int[MOST_SPOKEN];
        int spokenSize;

        void tellWord(Row row) {
            int packed = 0;
            for (int i = 0; i < row.size; i++) {
                packed |= row.items[i] << (4 * i);
            }
            wordSounds[row.subject] = packed;
            wordSizes[row.subject] = row.size;
        }

        void tellLine(Row row) {
            for (int i = 0; i < row.size; i++) {
                lineParts[row.subject * MOST_PARTS + i] = row.items[i];
            }
            lineSizes[row.subject] = row.size;
        }

        boolean knows(int line) {
            return below(line, LINES) && lineSizes[line] > 0;
        }

        int soundOf(int word, int i) {
            return (wordSounds[word] >>> (4 * i)) & 15;
        }

        boolean hasNumber(int line) {
            for (int i = 0; i < lineSizes[line]; i++) {
                if (lineParts[line * MOST_PARTS + i] == NUMBER) {
                    return true;
                }
            }
            return false;
        }

        /** Puts the line's words in spoken; false: one of them is not told. */
        boolean spell(int line, int number) {
            spokenSize = 0;
            for (int i = 0; i < lineSizes[line]; i++) {
                int part = lineParts[line * MOST_PARTS + i];
                if (part == NUMBER) {
                    spellNumber(number);
                } else {
                    speak(part);
                }
            }
            for (int i = 0; i < spokenSize; i++) {
                if (wordSizes[spoken[i]] == 0) {
                    return false;
                }
            }
            return true;
        }

        private void spellNumber(int number) {
            if (number < 20) {
                speak(number);
                return;
            }
            speak(18 + number / 10);
            if (number % 10 != 0) {
                speak(number % 10);
            }
        }

        private void speak(int word) {
            if (spokenSize < MOST_SPOKEN) {
                spoken[spokenSize] = word;
                spokenSize++;
            }
        }

        int spokenLength() {
            int length = 0;
            for (int i = 0; i < spokenSize; i++) {
                length += wordSizes[spoken[i]];
            }
            return length;
        }

        int spokenSound(int i) {
            int left = i;
            for (int j = 0; j < spokenSize; j++) {
                if (left < wordSizes[spoken[j]]) {
                    return soundOf(spoken[j], left);
                }
                left -= wordSizes[spoken[j]];
            }
            return NONE;
        }
    }

    /** What one row of the text tells. */
    private static final class Row {
        static final int WORD = 0, LINE = 1, CUT = 2, NEAR = 3, FAR_OFF = 4;

        int kind;
        /** The word, line or first platform; of a cut, what it costs. */
        int subject;
        /** A word's sounds, a line's parts, the second platform. */
        final int[] items = new int[MOST_SOUNDS];
        int size;
    }

    /** The text as it is written, and the reader that goes through it to the first fault. */
    private static final class Text {
        private static final int END = 0, LETTERS = 1, DIGITS = 2, SIGN = 3;

        final int[] bytes = new int[MOST_BYTES];
        int size;
        final Row[] rows = new Row[MOST_ROWS];
        int rowCount;
        /** The token at which the reader stands. */
        private int kind;
        private int begin;
        private int end;

        Text() {
            for (int i = 0; i < MOST_ROWS; i++) {
                rows[i] = new Row();
            }
        }

        int append(long more, int n) {
            for (int i = 0; i < n && size < MOST_BYTES; i++) {
                bytes[size] = (int) (more >>> (8 * i)) & 255;
                size++;
            }
            return size;
        }

        int empty() {
            int had = size;
            size = 0;
            return had;
        }

        /** The place of the first fault; NONE: rows hold what the text tells. */
        int read() {
            rowCount = 0;
            end = 0;
            step();
            for (int i = 0; i < MOST_ROWS; i++) {
                if (!readRow(rows[i])) {
                    return begin;
                }
                rowCount = i + 1;
                if (kind == END) {
                    return NONE;
                }
                if (!isSign(';') || rowCount == MOST_ROWS) {
                    return begin;
                }
                step();
            }
            return begin;
        }

        /** Goes to the next token. */
        private void step() {
            begin = end;
            while (begin < size && bytes[begin] == ' ') {
                begin++;
            }
            end = begin;
            if (begin >= size) {
                kind = END;
                return;
            }
            kind = kindOf(bytes[begin]);
            end++;
            while (kind != SIGN && end < size && kindOf(bytes[end]) == kind) {
                end++;
            }
        }

        private static int kindOf(int sign) {
            if (sign >= 'a' && sign <= 'z') {
                return LETTERS;
            }
            return sign >= '0' && sign <= '9' ? DIGITS : SIGN;
        }

        /** Reads what stands between two semicolons; false: the token where the reader stands is the fault. */
        private boolean readRow(Row row) {
            row.size = 0;
            if (takes("word")) {
                row.kind = Row.WORD;
                return readSubject(row, WORDS) && takes("is") && readSounds(row);
            }
            if (takes("line")) {
                row.kind = Row.LINE;
                return readSubject(row, LINES) && takes("is") && readParts(row);
            }
            if (takes("cut")) {
                row.kind = Row.CUT;
                return readSubject(row, CUTS);
            }
            if (takes("near")) {
                row.kind = Row.NEAR;
                return readSubject(row, PLATFORMS) && readOther(row);
            }
            if (takes("far")) {
                row.kind = Row.FAR_OFF;
                return readSubject(row, PLATFORMS) && readOther(row);
            }
            return false;
        }

        private boolean readSubject(Row row, int bound) {
            row.subject = number();
            if (!below(row.subject, bound)) {
                return false;
            }
            step();
            return true;
        }

        private boolean readSounds(Row row) {
            if (kind != LETTERS || end - begin > MOST_SOUNDS) {
                return false;
            }
            for (int i = begin; i < end; i++) {
                if (bytes[i] > 'p') {
                    return false;
                }
                row.items[row.size] = bytes[i] - 'a';
                row.size++;
            }
            step();
            return true;
        }

        /** Stops ahead of a ninth part: it cannot stand where a row ends. */
        private boolean readParts(Row row) {
            while (row.size < MOST_PARTS) {
                int part = isSign('#') ? NUMBER : number();
                if (part != NUMBER && !below(part, WORDS)) {
                    return false;
                }
                row.items[row.size] = part;
                row.size++;
                step();
                if (kind == END || isSign(';')) {
                    return true;
                }
            }
            return true;
        }

        private boolean readOther(Row row) {
            int other = number();
            if (!below(other, PLATFORMS) || other == row.subject) {
                return false;
            }
            row.items[0] = other;
            row.size = 1;
            step();
            return true;
        }

        /** The token as a number; NONE: it is none of one or two digits. */
        private int number() {
            if (kind != DIGITS || end - begin > 2) {
                return NONE;
            }
            int value = 0;
            for (int i = begin; i < end; i++) {
                value = 10 * value + bytes[i] - '0';
            }
            return value;
        }

        private boolean isSign(int sign) {
            return kind == SIGN && bytes[begin] == sign;
        }

        /** Goes on behind the token, if it is this one. */
        private boolean takes(String token) {
            if (end - begin != token.length()) {
                return false;
            }
            for (int i = 0; i < token.length(); i++) {
                if (bytes[begin + i] != token.charAt(i)) {
                    return false;
                }
            }
            step();
            return true;
        }
    }

    /** A line that is to be spoken at a platform, and how far that has come. */
    private static final class Call {
        static final int WAITING = 0, SPOKEN = 1, DONE = 2, CUT_OFF = 3, STALE = 4, MUTE = 5;

        final int platform;
        final int line;
        final int number;
        final boolean danger;
        int ready;
        int stale;
        int state;
        int soundsSaid;
        int began;
        boolean toStop;
        /** How many sounds are said at the end of each word: kept from the begin, as texts may tell words anew. */
        final int[] wordEnds = new int[MOST_SPOKEN];
        int wordCount;
        int wordsSaid;

        Call(int platform, int line, int number, boolean danger) {
            this.platform = platform;
            this.line = line;
            this.number = number;
            this.danger = danger;
            began = NONE;
        }

        boolean isReadyAt(int tick) {
            return state == WAITING && ready <= tick;
        }

        void start(int tick, Lexicon lexicon) {
            int sounds = 0;
            for (int i = 0; i < lexicon.spokenSize; i++) {
                sounds += lexicon.wordSizes[lexicon.spoken[i]];
                wordEnds[i] = sounds;
            }
            wordCount = lexicon.spokenSize;
            state = SPOKEN;
            began = tick;
        }

        void saySound() {
            soundsSaid++;
            if (wordsSaid < wordCount && soundsSaid < wordEnds[wordsSaid]) {
                return;
            }
            wordsSaid++;
            if (wordsSaid >= wordCount) {
                state = DONE;
            } else if (toStop) {
                state = CUT_OFF;
            }
        }
    }

    /** The platforms with their voices, and the calls at them. */
    private static final class Station {
        final Lexicon lexicon;
        final Sayer sayer;
        final int[] voices = new int[PLATFORMS];
        final int[] wishes = new int[PLATFORMS];
        /** By bits: the platform itself and those that hear it. */
        final int[] reaches = new int[PLATFORMS];
        final int[] speaking = new int[PLATFORMS];
        final Call[] calls = new Call[MOST_CALLS];
        int size;
        int ticks;

        Station(Lexicon lexicon, Sayer sayer) {
            this.lexicon = lexicon;
            this.sayer = sayer;
            for (int i = 0; i < PLATFORMS; i++) {
                reaches[i] = 1 << i;
                speaking[i] = NONE;
            }
        }

        void join(int a, int b) {
            reaches[a] |= 1 << b;
            reaches[b] |= 1 << a;
        }

        void part(int a, int b) {
            reaches[a] &= ~(1 << b);
            reaches[b] &= ~(1 << a);
        }

        int add(Call fresh) {
            calls[size] = fresh;
            size++;
            return size - 1;
        }

        /** How many platforms have the voice behind the change. */
        int giveAll(int voice) {
            int have = 0;
            for (int i = 0; i < PLATFORMS; i++) {
                if (wishes[i] > 0) {
                    wishes[i]--;
                } else {
                    voices[i] = voice;
                }
                if (voices[i] == voice) {
                    have++;
                }
            }
            return have;
        }

        void tick() {
            growStale();
            for (int i = 0; i < size; i++) {
                if (calls[i].danger && calls[i].isReadyAt(ticks)) {
                    hush(calls[i].platform);
                    beginIfStill(i);
                }
            }
            int danger = whereDangerWaits();
            for (int i = 0; i < size; i++) {
                if (!calls[i].danger && calls[i].isReadyAt(ticks) && (reaches[calls[i].platform] & danger) == 0) {
                    beginIfStill(i);
                }
            }
            saySounds();
            ticks++;
        }

        private void growStale() {
            for (int i = 0; i < size; i++) {
                if (calls[i].state == Call.WAITING && calls[i].stale <= ticks) {
                    calls[i].state = Call.STALE;
                }
            }
        }

        /** The platforms, by bits, at which a call of danger is ready and must wait. */
        private int whereDangerWaits() {
            int where = 0;
            for (int i = 0; i < size; i++) {
                if (calls[i].danger && calls[i].isReadyAt(ticks)) {
                    where |= 1 << calls[i].platform;
                }
            }
            return where;
        }

        private void hush(int platform) {
            for (int i = 0; i < PLATFORMS; i++) {
                if (isReached(platform, i) && speaking[i] != NONE && !calls[speaking[i]].danger) {
                    calls[speaking[i]].toStop = true;
                }
            }
        }

        private void beginIfStill(int number) {
            Call one = calls[number];
            for (int i = 0; i < PLATFORMS; i++) {
                if (isReached(one.platform, i) && speaking[i] != NONE) {
                    return;
                }
            }
            boolean spelled = lexicon.spell(one.line, one.number);
            if (!spelled || sayer.jarOfWords(lexicon, voices[one.platform]) == NONE) {
                one.state = Call.MUTE;
                return;
            }
            one.start(ticks, lexicon);
            speaking[one.platform] = number;
        }

        private boolean isReached(int platform, int other) {
            return ((reaches[platform] >>> other) & 1) == 1;
        }

        private void saySounds() {
            for (int i = 0; i < PLATFORMS; i++) {
                if (speaking[i] != NONE) {
                    calls[speaking[i]].saySound();
                    if (calls[speaking[i]].state != Call.SPOKEN) {
                        speaking[i] = NONE;
                    }
                }
            }
        }
    }

    /** Chooses the lines to record of a new voice. */
    private static final class Recorder {
        private static final int MOST_STEPS = (WORDS - FIRST_NAME) * (MOST_SOUNDS + 1);

        final Lexicon lexicon;
        /** The steps of all names, each once. */
        final int[] steps = new int[MOST_STEPS];
        int size;
        /** Of each line, which of these steps it has, by bits. */
        final long[] covers = new long[LINES];

        Recorder(Lexicon lexicon) {
            this.lexicon = lexicon;
        }

        /** By bits; NONE: all lines together do not do. */
        int fewestLines() {
            gatherNames();
            for (int line = 0; line < LINES; line++) {
                covers[line] = 0;
                if (lexicon.knows(line) && !lexicon.hasNumber(line) && lexicon.spell(line, 0)) {
                    covers[line] = coverOfSpoken();
                }
            }
            long all = (1L << size) - 1;
            int best = NONE;
            for (int set = 0; set < 1 << LINES; set++) {
                boolean fewer = best == NONE || Integer.bitCount(set) < Integer.bitCount(best);
                if (fewer && coverOfSet(set) == all) {
                    best = set;
                }
            }
            return best;
        }

        private void gatherNames() {
            size = 0;
            for (int word = FIRST_NAME; word < WORDS; word++) {
                int last = PAUSE;
                for (int i = 0; i < lexicon.wordSizes[word]; i++) {
                    int sound = lexicon.soundOf(word, i);
                    need(stepOf(last, sound));
                    last = sound;
                }
                if (last != PAUSE) {
                    need(stepOf(last, PAUSE));
                }
            }
        }

        private static int stepOf(int from, int to) {
            return from * (PAUSE + 1) + to;
        }

        private void need(int step) {
            if (bitOf(step) == 0 && size < MOST_STEPS) {
                steps[size] = step;
                size++;
            }
        }

        /** 0: no name has this step. */
        private long bitOf(int step) {
            for (int i = 0; i < size; i++) {
                if (steps[i] == step) {
                    return 1L << i;
                }
            }
            return 0;
        }

        private long coverOfSpoken() {
            long cover = 0;
            int last = PAUSE;
            for (int i = 0; i < lexicon.spokenSize; i++) {
                int word = lexicon.spoken[i];
                for (int j = 0; j < lexicon.wordSizes[word]; j++) {
                    int sound = lexicon.soundOf(word, j);
                    cover |= bitOf(stepOf(last, sound));
                    last = sound;
                }
            }
            return cover | bitOf(stepOf(last, PAUSE));
        }

        private long coverOfSet(int set) {
            long cover = 0;
            for (int line = 0; line < LINES; line++) {
                if (((set >>> line) & 1) == 1) {
                    cover |= covers[line];
                }
            }
            return cover;
        }
    }

    /** The spots along a platform, and who understands there. */
    private static final class Loudness {
        final int[] crowds = new int[SPOTS];

        int reached(int spot, int power) {
            int set = 0;
            for (int i = 0; i < SPOTS; i++) {
                if (power >= needed(spot, i)) {
                    set |= 1 << i;
                }
            }
            return set;
        }

        int leastPower(int spot, int set) {
            int least = 0;
            for (int i = 0; i < SPOTS; i++) {
                if (((set >>> i) & 1) == 1) {
                    least = Math.max(least, needed(spot, i));
                }
            }
            return least;
        }

        /** 16 times the least power of all spots, and the first spot that has it. */
        int bestSpot(int set) {
            int best = SPOTS * leastPower(0, set);
            for (int spot = 1; spot < SPOTS; spot++) {
                best = Math.min(best, SPOTS * leastPower(spot, set) + spot);
            }
            return best;
        }

        private int needed(int spot, int other) {
            return 11 + 3 * Math.abs(spot - other) + crowds[other];
        }
    }
}
