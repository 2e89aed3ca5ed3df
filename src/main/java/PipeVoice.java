/** A voice made of pipes: the face of it, over the parts that stand inside. */
public final class PipeVoice {
    public static final int NONE = -1;

    private static final int FEWEST_PIECES = 2;
    private static final int MOST_PIECES = 5;
    private static final int MOST_WIDTH = 12;
    private static final int FIRST_WIDTH = 6;
    private static final int MOST_BYTES = 400;
    private static final int FED_BYTES = 20;
    private static final int MOST_LETTERS = 8;
    private static final int MOST_GESTURES = 20;
    private static final int MOST_ITEMS = 8;
    private static final int MOST_SAID = 20;
    private static final int MOST_TICKS = 200;
    private static final int TICKS_AT_ONCE = 50;
    private static final int STEPS_OF_TICK = 10;
    private static final int MOST_GAP = 50;
    private static final int MOST_PACE = 9;
    private static final int MOST_BREATH = 40;
    private static final int MOST_STIFF = 20;
    private static final int MOST_WEIGHT = 20;
    private static final int MOST_STRAIN_ASKED = 1000;
    private static final long MOST_WAVE = 1000000000L;
    private static final int FOLDS_END = MOST_PIECES - 1;
    private static final int LIPS_END = MOST_PIECES;
    private static final int SCALE = 20;
    private static final int NO_BOX = -100;
    private static final int MOST_SOUNDS = 8;
    private static final int MOST_TONES = 5;
    private static final int MOST_TIME = 100;
    private static final int MOST_CHOICES = 4;
    // Far above any sum of differences, and far below what an int holds.
    private static final int NO_WAY = 1000000;

    private final int pieces;
    private final Tape tape;
    private final Reader reader;
    // Three, so that one is always free to be read into: the text's, the image's, a spare.
    private final Law[] laws;
    private final Moment now;
    private final Moment kept;
    // The records below only grow with the clock and TIME, and nothing ahead of the
    // image's clock and TIME is ever written anew: so the image needs no copy of them.
    private final int[] leads;
    private final long[] sounds;
    private final Heard heard;
    private final Lead lead;
    private final Pipes pipes;
    private final Rhythm ring;
    private final Shapes shapes;
    private final int[] asked;

    public PipeVoice(int pieces) {
        this.pieces = Math.max(FEWEST_PIECES, Math.min(MOST_PIECES, pieces));
        tape = new Tape();
        laws = new Law[3];
        for (int i = 0; i < laws.length; i++) {
            laws[i] = new Law();
        }
        reader = new Reader(tape, laws[0], this.pieces);
        now = new Moment(laws[0]);
        kept = new Moment(laws[0]);
        leads = new int[MOST_TICKS * MOST_PIECES];
        sounds = new long[MOST_TICKS * STEPS_OF_TICK];
        heard = new Heard();
        lead = new Lead();
        pipes = new Pipes(this.pieces);
        ring = new Rhythm();
        shapes = new Shapes(this.pieces);
        asked = new int[MOST_PIECES];
    }

    public int feed(int a, int b, int c, int d, int e) {
        if (tape.size + FED_BYTES > MOST_BYTES) {
            return NONE;
        }
        tape.add(a);
        tape.add(b);
        tape.add(c);
        tape.add(d);
        tape.add(e);
        return tape.size;
    }

    public int end(int n) {
        if (n < 0 || n > tape.size) {
            return NONE;
        }
        tape.size = n;
        return n;
    }

    public int text() {
        Law spare = spareLaw();
        reader.begin(spare);
        // Each CLAUSE takes a TOKEN at least, or has a FAULT.
        for (int i = 0; i < MOST_BYTES && reader.goesOn(); i++) {
            reader.readClause();
        }
        tape.size = 0;
        if (reader.flaw != 0) {
            return NONE;
        }
        now.law = spare;
        now.said = 0;
        return spare.clauses;
    }

    public int fault(int what) {
        if (!reader.hasRead) {
            return NONE;
        }
        if (what == 0) {
            return reader.flaw;
        }
        return what == 1 ? reader.place : NONE;
    }

    public int law(int what) {
        if (isPiece(what)) {
            return now.law.rest[what];
        }
        switch (what) {
            case 10:
                return now.law.loss;
            case 11:
                return now.law.lips;
            case 12:
                return now.law.back;
            case 13:
                return now.law.gestures;
            default:
                return NONE;
        }
    }

    public int say(int word) {
        if (word < 0 || word >= MOST_LETTERS || now.law.itemsOf[word] == 0 || now.said >= MOST_SAID) {
            return NONE;
        }
        now.saidWord[now.said] = word;
        now.saidTick[now.said] = now.clock;
        now.said++;
        return now.said;
    }

    public boolean folds(int breath, int stiff, int weight) {
        if (!isBreath(breath) || stiff < 1 || stiff > MOST_STIFF || weight < 1 || weight > MOST_WEIGHT) {
            return false;
        }
        now.folds.breath = breath;
        now.folds.stiff = stiff;
        now.folds.weight = weight;
        return true;
    }

    public int ticks(int n) {
        if (n < 1 || n > TICKS_AT_ONCE || now.clock + n > MOST_TICKS) {
            return NONE;
        }
        for (int i = 0; i < n; i++) {
            passTick();
        }
        return now.clock;
    }

    public int width(int piece) {
        return isPiece(piece) ? now.widths[piece] : NONE;
    }

    public int led(int tick, int piece, int what) {
        if (tick < 0 || tick >= now.clock || !isPiece(piece) || what < 0 || what > 4) {
            return NONE;
        }
        return Lead.unpacked(leads[tick * MOST_PIECES + piece], what);
    }

    public long sound(int step) {
        return step < 0 || step >= now.clock * STEPS_OF_TICK ? 0L : sounds[step];
    }

    public long wave(int piece, boolean lips) {
        if (!isPiece(piece)) {
            return 0L;
        }
        return lips ? now.toLips[piece] : now.toFolds[piece];
    }

    public long left(int joint) {
        if (joint >= 0 && joint < pieces - 1) {
            return now.rests[joint];
        }
        if (joint == 10) {
            return now.rests[FOLDS_END];
        }
        return joint == 11 ? now.rests[LIPS_END] : NONE;
    }

    public int foldsOf(int what) {
        switch (what) {
            case 0:
                return now.folds.gap;
            case 1:
                return now.folds.pace;
            case 2:
                return now.folds.strain;
            case 3:
                return now.folds.met;
            default:
                return -100;
        }
    }

    public int rhythm(int breath, int what) {
        if (!isBreath(breath) || what < 0 || what > 3) {
            return NONE;
        }
        ring.find(breath, now.folds.stiff, now.folds.weight);
        switch (what) {
            case 0:
                return ring.leading;
            case 1:
                return ring.length;
            case 2:
                return ring.meets;
            default:
                return ring.strain;
        }
    }

    public int unsafe(int a, int b, int most) {
        if (!isBreath(a) || !isBreath(b) || most < 0 || most > MOST_STRAIN_ASKED) {
            return NONE;
        }
        for (int breath = a; breath <= b; breath++) {
            ring.find(breath, now.folds.stiff, now.folds.weight);
            if (100 * ring.strain > most * ring.length) {
                return breath;
            }
        }
        return NONE;
    }

    public int above(int a, int b, int c, int d, int e, int x) {
        if (x < -SCALE || x > SCALE || !askShape(a, b, c, d, e)) {
            return NONE;
        }
        return Tones.countAbove(asked, pieces, x);
    }

    public int tone(int a, int b, int c, int d, int e, int k) {
        return askShape(a, b, c, d, e) ? Tones.boxOf(asked, pieces, k) : NO_BOX;
    }

    public int alike(int a, int b, int c, int d, int e) {
        if (!askShape(a, b, c, d, e)) {
            return NONE;
        }
        boolean byFactor = true;
        boolean endForEnd = true;
        int product = asked[0] * now.widths[pieces - 1];
        for (int i = 0; i < pieces; i++) {
            byFactor = byFactor && asked[i] * now.widths[0] == asked[0] * now.widths[i];
            endForEnd = endForEnd && asked[i] * now.widths[pieces - 1 - i] == product;
        }
        if (byFactor) {
            return 1;
        }
        return endForEnd ? 2 : 0;
    }

    public int grid(int piece, int widths) {
        // Bits 1 to 12 are WIDTHS; any other bit is none.
        int allowed = (1 << (MOST_WIDTH + 1)) - 2;
        if (!isPiece(piece) || widths == 0 || (widths & ~allowed) != 0 || Integer.bitCount(widths) > MOST_CHOICES) {
            return NONE;
        }
        now.grid[piece] = widths;
        return countShapes();
    }

    public int hear(int sound, int tone, int from, int to) {
        if (!isSound(sound) || tone < 0 || tone >= MOST_TONES || now.time >= MOST_TIME) {
            return NONE;
        }
        if (from < -SCALE || to >= SCALE || from > to) {
            return NONE;
        }
        heard.put(now.time, sound * MOST_TONES + tone, from, to);
        now.time++;
        now.look = now.time;
        return now.time;
    }

    public boolean look(int time) {
        if (time < 0 || time > now.time) {
            return false;
        }
        now.look = time;
        return true;
    }

    public int makes(int sound) {
        if (!isSound(sound)) {
            return NONE;
        }
        shapes.ask(now, heard, sound);
        return shapes.countFits();
    }

    public int maker(int sound, int i, int piece) {
        if (!isSound(sound) || i < 0 || !isPiece(piece)) {
            return NONE;
        }
        shapes.ask(now, heard, sound);
        int shape = shapes.fitAt(i);
        return shape == NONE ? NONE : shapes.widthIn(shape, piece);
    }

    public int nearest(int sound, int piece) {
        if (!isSound(sound) || (piece != NONE && !isPiece(piece))) {
            return NONE;
        }
        shapes.ask(now, heard, sound);
        int shape = shapes.nearestFit(now.widths);
        if (shape == NONE) {
            return NONE;
        }
        return piece == NONE ? shapes.distance(shape, now.widths) : shapes.widthIn(shape, piece);
    }

    public int row(int m, int k, int piece) {
        if (m < 1 || m > MOST_SOUNDS) {
            return NONE;
        }
        if (k != NONE && (k < 0 || k >= m || !isPiece(piece))) {
            return NONE;
        }
        shapes.weighRow(now, heard, m);
        int first = shapes.firstOfRow();
        if (first == NONE) {
            return NONE;
        }
        return k == NONE ? shapes.sumOfRow(first) : shapes.widthIn(shapes.shapeOfRow(first, k), piece);
    }

    public int image() {
        kept.copy(now);
        return now.clock;
    }

    public int back() {
        now.copy(kept);
        return now.clock;
    }

    public int about(int what) {
        switch (what) {
            case 0:
                return pieces;
            case 1:
                return now.clock;
            case 2:
                return now.time;
            case 3:
                return now.look;
            case 4:
                return now.said;
            case 5:
                return countShapes();
            case 6:
                return tape.size;
            case 7:
                return now.folds.breath;
            case 8:
                return now.folds.stiff;
            case 9:
                return now.folds.weight;
            default:
                return NONE;
        }
    }

    private boolean isPiece(int piece) {
        return piece >= 0 && piece < pieces;
    }

    private static boolean isSound(int sound) {
        return sound >= 0 && sound < MOST_SOUNDS;
    }

    private static boolean isBreath(int breath) {
        return breath >= 0 && breath <= MOST_BREATH;
    }

    private Law spareLaw() {
        for (int i = 1; i < laws.length; i++) {
            if (laws[i] != now.law && laws[i] != kept.law) {
                return laws[i];
            }
        }
        return laws[0];
    }

    private int countShapes() {
        int count = 1;
        for (int i = 0; i < pieces; i++) {
            count *= Integer.bitCount(now.grid[i]);
        }
        return count;
    }

    /** Keeps the shape that is asked for; false if one of its PIECES has no WIDTH. */
    private boolean askShape(int a, int b, int c, int d, int e) {
        asked[0] = a;
        asked[1] = b;
        asked[2] = c;
        asked[3] = d;
        asked[4] = e;
        for (int i = 0; i < pieces; i++) {
            if (asked[i] < 1 || asked[i] > MOST_WIDTH) {
                return false;
            }
        }
        return true;
    }

    private void passTick() {
        for (int piece = 0; piece < pieces; piece++) {
            lead.find(now, piece);
            int way = lead.aim - now.widths[piece];
            now.widths[piece] += Math.max(-lead.speed, Math.min(lead.speed, way));
            leads[now.clock * MOST_PIECES + piece] = lead.packed(now.widths[piece]);
        }
        for (int i = 0; i < STEPS_OF_TICK; i++) {
            sounds[now.clock * STEPS_OF_TICK + i] = pipes.pass(now);
        }
        now.clock++;
    }

    /** The bytes that wait to be read. */
    private static final class Tape {
        final byte[] bytes = new byte[MOST_BYTES];
        int size;

        void add(int four) {
            if (size + 4 > MOST_BYTES) {
                return;
            }
            for (int shift = 24; shift >= 0; shift -= 8) {
                bytes[size] = (byte) (four >> shift);
                size++;
            }
        }
    }

    /** What a text tells. */
    private static final class Law {
        final int[] rest = new int[MOST_PIECES];
        int loss;
        int lips;
        int back;
        int clauses;
        int gestures;
        final int[] letters = new int[MOST_GESTURES];
        final int[] piece = new int[MOST_GESTURES];
        final int[] width = new int[MOST_GESTURES];
        final int[] speed = new int[MOST_GESTURES];
        final int[] hold = new int[MOST_GESTURES];
        final int[] strength = new int[MOST_GESTURES];
        // 0: this WORD wasn't told, as each that was has an ITEM.
        final int[] itemsOf = new int[MOST_LETTERS];
        final int[] itemLetter = new int[MOST_LETTERS * MOST_ITEMS];
        final int[] itemAt = new int[MOST_LETTERS * MOST_ITEMS];

        Law() {
            clear();
        }

        void clear() {
            for (int i = 0; i < MOST_PIECES; i++) {
                rest[i] = FIRST_WIDTH;
            }
            for (int i = 0; i < MOST_LETTERS; i++) {
                itemsOf[i] = 0;
            }
            loss = 0;
            lips = 100;
            back = 100;
            clauses = 0;
            gestures = 0;
        }

        boolean hasGesture(int letter) {
            for (int i = 0; i < gestures; i++) {
                if (letters[i] == letter) {
                    return true;
                }
            }
            return false;
        }
    }

    /** Reads a tape into a law, up to the first FAULT. Behind a FAULT every taking does nothing. */
    private static final class Reader {
        private static final int END = 0;
        private static final int BLANK = 1;
        private static final int LETTERS = 2;
        private static final int NUMBER = 3;
        private static final int COMMA = 4;
        private static final int SEMICOLON = 5;
        private static final int NO_TOKEN = 6;

        private static final int CANT_STAND = 1;
        private static final int WRONG_NUMBER = 2;
        private static final int NO_GESTURE = 3;
        private static final int TWICE = 4;
        private static final int WRONG_COUNT = 5;

        // Above every NUMBER that may stand: longer rows of digits stay at it.
        private static final int TOO_GREAT = 1000;

        private final Tape source;
        private final int pieces;
        private Law law;
        private int start;
        private int stop;
        private int kind;
        private int number;
        private int onceTold;
        boolean hasRead;
        int flaw;
        int place;

        Reader(Tape tape, Law first, int pieceCount) {
            source = tape;
            law = first;
            pieces = pieceCount;
        }

        void begin(Law into) {
            law = into;
            law.clear();
            hasRead = true;
            flaw = 0;
            place = NONE;
            onceTold = 0;
            stop = 0;
            takeToken();
        }

        boolean goesOn() {
            return kind != END && flaw == 0;
        }

        void readClause() {
            if (isWord("rest")) {
                readRest();
            } else if (isWord("loss")) {
                law.loss = readPart(2);
            } else if (isWord("lips")) {
                law.lips = readPart(4);
            } else if (isWord("back")) {
                law.back = readPart(8);
            } else if (isWord("gesture")) {
                readGesture();
            } else if (isWord("word")) {
                readWord();
            } else {
                fail(CANT_STAND);
            }
            law.clauses++;
        }

        private void readRest() {
            takeOnce(1);
            int count = 0;
            boolean more = true;
            for (int i = 0; i <= pieces && more && flaw == 0; i++) {
                checkNumber(1, MOST_WIDTH);
                if (i == pieces) {
                    fail(WRONG_COUNT);
                } else {
                    law.rest[i] = number;
                    count++;
                }
                takeToken();
                more = takeComma();
            }
            if (kind == SEMICOLON && count < pieces) {
                fail(WRONG_COUNT);
            }
            takeSemicolon();
        }

        private int readPart(int bit) {
            takeOnce(bit);
            int part = takeNumber(0, 100);
            takeSemicolon();
            return part;
        }

        private void readGesture() {
            int i = law.gestures;
            if (i >= MOST_GESTURES) {
                fail(WRONG_COUNT);
                return;
            }
            takeToken();
            law.letters[i] = letterHere();
            takeToken();
            law.piece[i] = takeNumber(0, pieces - 1);
            takeWord("to");
            law.width[i] = takeNumber(1, MOST_WIDTH);
            takeWord("by");
            law.speed[i] = takeNumber(1, 6);
            takeWord("hold");
            law.hold[i] = takeNumber(1, 50);
            takeWord("strong");
            law.strength[i] = takeNumber(0, 9);
            takeSemicolon();
            law.gestures++;
        }

        private void readWord() {
            takeToken();
            int word = letterHere();
            if (word == NONE) {
                return;
            }
            if (law.itemsOf[word] > 0) {
                fail(TWICE);
            }
            takeToken();
            boolean more = true;
            for (int i = 0; i <= MOST_ITEMS && more && flaw == 0; i++) {
                readItem(word, i);
                more = takeComma();
            }
            takeSemicolon();
        }

        private void readItem(int word, int i) {
            int letter = letterHere();
            if (letter != NONE && !law.hasGesture(letter)) {
                fail(NO_GESTURE);
            }
            if (i >= MOST_ITEMS) {
                fail(WRONG_COUNT);
                return;
            }
            takeToken();
            takeWord("at");
            law.itemLetter[word * MOST_ITEMS + i] = letter;
            law.itemAt[word * MOST_ITEMS + i] = takeNumber(0, 99);
            law.itemsOf[word] = i + 1;
        }

        /** The LETTER that the token is, from 0; NONE, with a FAULT, if it is none. */
        private int letterHere() {
            if (kind == LETTERS && stop - start == 1) {
                int letter = source.bytes[start] - 'A';
                if (letter >= 0 && letter < MOST_LETTERS) {
                    return letter;
                }
            }
            fail(CANT_STAND);
            return NONE;
        }

        private void takeOnce(int bit) {
            if ((onceTold & bit) != 0) {
                fail(TWICE);
            }
            onceTold |= bit;
            takeToken();
        }

        private void checkNumber(int least, int most) {
            if (kind != NUMBER) {
                fail(CANT_STAND);
            } else if (number < least || number > most) {
                fail(WRONG_NUMBER);
            }
        }

        private int takeNumber(int least, int most) {
            checkNumber(least, most);
            int taken = number;
            takeToken();
            return taken;
        }

        private void takeWord(String word) {
            if (!isWord(word)) {
                fail(CANT_STAND);
            }
            takeToken();
        }

        private void takeSemicolon() {
            if (kind != SEMICOLON) {
                fail(CANT_STAND);
            }
            takeToken();
        }

        private boolean takeComma() {
            if (kind != COMMA) {
                return false;
            }
            takeToken();
            return true;
        }

        /** Only the first FAULT is kept: none of those that follow from it. */
        private void fail(int which) {
            if (flaw == 0) {
                flaw = which;
                place = start;
            }
        }

        private void takeToken() {
            if (flaw != 0) {
                return;
            }
            start = stop;
            while (start < source.size && kindOf(source.bytes[start]) == BLANK) {
                start++;
            }
            kind = start < source.size ? kindOf(source.bytes[start]) : END;
            stop = Math.min(start + 1, source.size);
            if (kind == LETTERS || kind == NUMBER) {
                while (stop < source.size && kindOf(source.bytes[stop]) == kind) {
                    stop++;
                }
            }
            if (kind == NUMBER) {
                readDigits();
            }
        }

        private void readDigits() {
            number = 0;
            for (int i = start; i < stop; i++) {
                number = Math.min(TOO_GREAT, number * 10 + source.bytes[i] - '0');
            }
        }

        private boolean isWord(String word) {
            if (kind != LETTERS || stop - start != word.length()) {
                return false;
            }
            for (int i = 0; i < word.length(); i++) {
                if (source.bytes[start + i] != word.charAt(i)) {
                    return false;
                }
            }
            return true;
        }

        private static int kindOf(int sign) {
            if ((sign >= 'a' && sign <= 'z') || (sign >= 'A' && sign <= 'Z')) {
                return LETTERS;
            }
            if (sign >= '0' && sign <= '9') {
                return NUMBER;
            }
            switch (sign) {
                case 10:
                case 32:
                    return BLANK;
                case ',':
                    return COMMA;
                case ';':
                    return SEMICOLON;
                default:
                    return NO_TOKEN;
            }
        }
    }

    /** All that an image keeps. */
    private static final class Moment {
        Law law;
        int clock;
        int said;
        final int[] saidWord = new int[MOST_SAID];
        final int[] saidTick = new int[MOST_SAID];
        final int[] widths = new int[MOST_PIECES];
        final long[] toLips = new long[MOST_PIECES];
        final long[] toFolds = new long[MOST_PIECES];
        // Of the joints, then of the folds' end and the lips' end.
        final long[] rests = new long[MOST_PIECES + 1];
        final Folds folds = new Folds();
        final int[] grid = new int[MOST_PIECES];
        int time;
        int look;

        Moment(Law first) {
            law = first;
            for (int i = 0; i < MOST_PIECES; i++) {
                widths[i] = FIRST_WIDTH;
                grid[i] = 1 << FIRST_WIDTH;
            }
        }

        void copy(Moment other) {
            law = other.law;
            clock = other.clock;
            said = other.said;
            time = other.time;
            look = other.look;
            folds.copy(other.folds);
            System.arraycopy(other.saidWord, 0, saidWord, 0, MOST_SAID);
            System.arraycopy(other.saidTick, 0, saidTick, 0, MOST_SAID);
            System.arraycopy(other.widths, 0, widths, 0, MOST_PIECES);
            System.arraycopy(other.toLips, 0, toLips, 0, MOST_PIECES);
            System.arraycopy(other.toFolds, 0, toFolds, 0, MOST_PIECES);
            System.arraycopy(other.rests, 0, rests, 0, MOST_PIECES + 1);
            System.arraycopy(other.grid, 0, grid, 0, MOST_PIECES);
        }
    }

    /** By what a PIECE is led on the clock's TICK. */
    private static final class Lead {
        // Each part of a packed lead is one more than itself, so that NONE is 0.
        private static final int PART_BITS = 6;
        private static final int PART_MASK = 63;

        int aim;
        int speed;
        private int said;
        private int item;
        private int clause;
        private int strongest;
        private int sum;
        private int count;

        void find(Moment now, int piece) {
            strongest = NONE;
            speed = 1;
            said = NONE;
            item = NONE;
            clause = NONE;
            sum = 0;
            count = 0;
            for (int i = 0; i < now.said; i++) {
                int word = now.saidWord[i];
                for (int j = 0; j < now.law.itemsOf[word]; j++) {
                    findInItem(now, piece, i, j);
                }
            }
            aim = count > 0 ? sum / count : now.law.rest[piece];
        }

        private void findInItem(Moment now, int piece, int whichSaid, int whichItem) {
            Law law = now.law;
            int place = now.saidWord[whichSaid] * MOST_ITEMS + whichItem;
            int since = now.clock - now.saidTick[whichSaid] - law.itemAt[place];
            if (since < 0) {
                return;
            }
            for (int i = 0; i < law.gestures; i++) {
                boolean wanted = law.letters[i] == law.itemLetter[place] && law.piece[i] == piece && since < law.hold[i];
                if (wanted && law.strength[i] > strongest) {
                    strongest = law.strength[i];
                    said = whichSaid;
                    item = whichItem;
                    clause = i;
                    sum = 0;
                    count = 0;
                    speed = 1;
                }
                if (wanted && law.strength[i] == strongest) {
                    sum += law.width[i];
                    count++;
                    speed = Math.max(speed, law.speed[i]);
                }
            }
        }

        int packed(int width) {
            int pack = clause + 1;
            pack = (pack << PART_BITS) + item + 1;
            pack = (pack << PART_BITS) + said + 1;
            pack = (pack << PART_BITS) + aim + 1;
            return (pack << PART_BITS) + width + 1;
        }

        static int unpacked(int pack, int what) {
            return ((pack >> (what * PART_BITS)) & PART_MASK) - 1;
        }
    }

    private static final class Folds {
        private static final int FIRST_GAP = 10;
        private static final int FIRST_STIFF = 5;
        private static final int FIRST_WEIGHT = 4;

        int gap = FIRST_GAP;
        int pace;
        int breath;
        int stiff = FIRST_STIFF;
        int weight = FIRST_WEIGHT;
        int strain;
        int met;

        void copy(Folds other) {
            gap = other.gap;
            pace = other.pace;
            breath = other.breath;
            stiff = other.stiff;
            weight = other.weight;
            strain = other.strain;
            met = other.met;
        }

        void begin(int newBreath, int newStiff, int newWeight) {
            gap = FIRST_GAP;
            pace = 0;
            breath = newBreath;
            stiff = newStiff;
            weight = newWeight;
            startCount();
        }

        void startCount() {
            strain = 0;
            met = 0;
        }

        void pass() {
            if (weight < 1) {
                return;
            }
            pace += (breath - stiff * gap / 10) / weight;
            pace = Math.max(-MOST_PACE, Math.min(MOST_PACE, pace));
            int next = gap + pace;
            if (next < 0) {
                gap = 0;
                strain -= pace;
                met++;
                pace = -pace / 2;
            } else if (next > MOST_GAP) {
                gap = MOST_GAP;
                pace = 0;
            } else {
                gap = next;
            }
        }

        int source() {
            return breath * gap / 10;
        }

        /** GAP and PACE as one number from 0 on. */
        int state() {
            return gap * (2 * MOST_PACE + 1) + pace + MOST_PACE;
        }
    }

    /** The ring that the folds come to with a BREATH. */
    private static final class Rhythm {
        private static final int STATES = (MOST_GAP + 1) * (2 * MOST_PACE + 1);

        private final Folds folds = new Folds();
        private final int[] cameAt = new int[STATES];
        int leading;
        int length;
        int meets;
        int strain;

        void find(int breath, int stiff, int weight) {
            for (int i = 0; i < STATES; i++) {
                cameAt[i] = NONE;
            }
            folds.begin(breath, stiff, weight);
            int steps = 0;
            while (steps < STATES && cameAt[folds.state()] == NONE) {
                cameAt[folds.state()] = steps;
                folds.pass();
                steps++;
            }
            leading = cameAt[folds.state()];
            length = steps - leading;
            folds.startCount();
            for (int i = 0; i < length; i++) {
                folds.pass();
            }
            meets = folds.met;
            strain = folds.strain;
        }
    }

    /** The waves' way through a STEP. */
    private static final class Pipes {
        private final int pieces;
        private final long[] nextToLips = new long[MOST_PIECES];
        private final long[] nextToFolds = new long[MOST_PIECES];

        Pipes(int pieceCount) {
            pieces = pieceCount;
        }

        /** One STEP: its SOUND. */
        long pass(Moment now) {
            now.folds.pass();
            for (int i = 0; i + 1 < pieces; i++) {
                passJoint(now, i);
            }
            long atFolds = now.law.back * now.toFolds[0] + now.rests[FOLDS_END];
            nextToLips[0] = now.folds.source() + Math.floorDiv(atFolds, 100L);
            now.rests[FOLDS_END] = Math.floorMod(atFolds, 100L);

            long out = now.toLips[pieces - 1];
            long atLips = now.law.lips * out + now.rests[LIPS_END];
            long thrownBack = Math.floorDiv(atLips, 100L);
            nextToFolds[pieces - 1] = -thrownBack;
            now.rests[LIPS_END] = Math.floorMod(atLips, 100L);

            for (int i = 0; i < pieces; i++) {
                now.toLips[i] = weakened(nextToLips[i], now.law.loss);
                now.toFolds[i] = weakened(nextToFolds[i], now.law.loss);
            }
            return out + thrownBack;
        }

        private void passJoint(Moment now, int i) {
            long near = now.widths[i];
            long far = now.widths[i + 1];
            if (near + far < 1) {
                return;
            }
            long x = now.toLips[i];
            long y = now.toFolds[i + 1];
            long parted = (far - near) * (x + y) + now.rests[i];
            long q = Math.floorDiv(parted, near + far);
            now.rests[i] = Math.floorMod(parted, near + far);
            nextToLips[i + 1] = x + q;
            nextToFolds[i] = y - q;
        }

        private static long weakened(long wave, int loss) {
            long less = wave - wave * loss / 1000;
            return Math.max(-MOST_WAVE, Math.min(MOST_WAVE, less));
        }
    }

    private static final class Tones {
        static int countAbove(int[] widths, int pieces, int x) {
            long slope = SCALE * x;
            long fall = SCALE * SCALE - x * x;
            long r = 0;
            long v = 1;
            boolean below = false;
            int changes = 0;
            for (int i = pieces - 1; i >= 0; i--) {
                long nextR = slope * r - fall * v;
                long nextV = slope * v + SCALE * SCALE * r;
                if (nextV != 0 && below != nextV < 0) {
                    changes++;
                    below = !below;
                }
                if (i > 0) {
                    r = nextR * widths[i - 1];
                    v = nextV * widths[i];
                }
            }
            return changes;
        }

        /** Halves the span of BOXES: how many are above never grows with x, as the v form a row of Sturm's. */
        static int boxOf(int[] widths, int pieces, int k) {
            if (k < 0 || countAbove(widths, pieces, -SCALE) <= k) {
                return NO_BOX;
            }
            int low = -SCALE;
            int high = SCALE;
            for (int i = 0; i < 2 * SCALE && high - low > 1; i++) {
                int middle = (low + high) >> 1;
                if (countAbove(widths, pieces, middle) > k) {
                    low = middle;
                } else {
                    high = middle;
                }
            }
            return low;
        }
    }

    /** What was told of SOUNDS and TONES, TIME by TIME. */
    private static final class Heard {
        private final int[] which = new int[MOST_TIME];
        private final int[] from = new int[MOST_TIME];
        private final int[] to = new int[MOST_TIME];

        void put(int time, int soundAndTone, int first, int last) {
            if (time < 0 || time >= MOST_TIME) {
                return;
            }
            which[time] = soundAndTone;
            from[time] = first;
            to[time] = last;
        }

        /** The BOXES of each TONE of a SOUND, as told up to a TIME; an empty span stands for any. */
        void fill(int sound, int time, int[] low, int[] high) {
            for (int i = 0; i < MOST_TONES; i++) {
                low[i] = 0;
                high[i] = -1;
            }
            for (int i = 0; i < time && i < MOST_TIME; i++) {
                int tone = which[i] - sound * MOST_TONES;
                if (tone >= 0 && tone < MOST_TONES) {
                    low[tone] = from[i];
                    high[tone] = to[i];
                }
            }
        }
    }

    /** The shapes of the GRID, by their numbers in its order, and those that make a SOUND. */
    private static final class Shapes {
        private final int pieces;
        private final int[] sets = new int[MOST_PIECES];
        private final int[] choices = new int[MOST_PIECES * MOST_CHOICES];
        private final int[] sizes = new int[MOST_PIECES];
        private final int[] strides = new int[MOST_PIECES];
        private final int[] widths = new int[MOST_PIECES];
        private final int[] low = new int[MOST_TONES];
        private final int[] high = new int[MOST_TONES];
        private int total;
        // Boxes of all shapes, TONE by TONE; those of a TONE are counted when it is first
        // asked for in this GRID, and its bit is set then.
        private byte[] boxes = new byte[0];
        private int boxed;
        // Of a row: SOUND by SOUND the least sum from each shape on to the row's end.
        private int[] costs = new int[0];

        Shapes(int pieceCount) {
            pieces = pieceCount;
        }

        void ask(Moment now, Heard heard, int sound) {
            layOut(now.grid);
            heard.fill(sound, now.look, low, high);
            for (int tone = 0; tone < MOST_TONES; tone++) {
                if (low[tone] <= high[tone] && (boxed & (1 << tone)) == 0) {
                    fillBoxes(tone);
                    boxed |= 1 << tone;
                }
            }
        }

        private void layOut(int[] grid) {
            boolean same = true;
            for (int i = 0; i < pieces; i++) {
                same = same && sets[i] == grid[i];
            }
            if (same) {
                return;
            }
            total = 1;
            for (int i = pieces - 1; i >= 0; i--) {
                sets[i] = grid[i];
                sizes[i] = listChoices(i);
                strides[i] = total;
                total *= sizes[i];
            }
            boxed = 0;
            if (boxes.length < total * MOST_TONES) {
                boxes = new byte[total * MOST_TONES];
            }
        }

        private int listChoices(int piece) {
            int count = 0;
            for (int width = 1; width <= MOST_WIDTH && count < MOST_CHOICES; width++) {
                if ((sets[piece] & (1 << width)) != 0) {
                    choices[piece * MOST_CHOICES + count] = width;
                    count++;
                }
            }
            return count;
        }

        private void fillBoxes(int tone) {
            for (int shape = 0; shape < total; shape++) {
                for (int i = 0; i < pieces; i++) {
                    widths[i] = widthIn(shape, i);
                }
                boxes[tone * total + shape] = (byte) Tones.boxOf(widths, pieces, tone);
            }
        }

        int widthIn(int shape, int piece) {
            if (shape < 0 || strides[piece] < 1 || sizes[piece] < 1) {
                return NONE;
            }
            return choices[piece * MOST_CHOICES + shape / strides[piece] % sizes[piece]];
        }

        private boolean fits(int shape) {
            for (int tone = 0; tone < MOST_TONES; tone++) {
                if (low[tone] <= high[tone]) {
                    int box = boxes[tone * total + shape];
                    if (box < low[tone] || box > high[tone]) {
                        return false;
                    }
                }
            }
            return true;
        }

        int countFits() {
            int count = 0;
            for (int shape = 0; shape < total; shape++) {
                if (fits(shape)) {
                    count++;
                }
            }
            return count;
        }

        int fitAt(int which) {
            int count = 0;
            for (int shape = 0; shape < total; shape++) {
                if (fits(shape)) {
                    if (count == which) {
                        return shape;
                    }
                    count++;
                }
            }
            return NONE;
        }

        int nearestFit(int[] to) {
            int best = NONE;
            int least = NO_WAY;
            for (int shape = 0; shape < total; shape++) {
                if (fits(shape)) {
                    int far = distance(shape, to);
                    if (far < least) {
                        least = far;
                        best = shape;
                    }
                }
            }
            return best;
        }

        int distance(int shape, int[] to) {
            int sum = 0;
            for (int i = 0; i < pieces; i++) {
                sum += Math.abs(widthIn(shape, i) - to[i]);
            }
            return sum;
        }

        void weighRow(Moment now, Heard heard, int m) {
            for (int k = m - 1; k >= 0; k--) {
                ask(now, heard, k);
                if (costs.length < total * MOST_SOUNDS) {
                    costs = new int[total * MOST_SOUNDS];
                }
                int start = k * total;
                if (k < m - 1) {
                    System.arraycopy(costs, start + total, costs, start, total);
                    spread(start);
                }
                for (int shape = 0; shape < total; shape++) {
                    if (!fits(shape)) {
                        costs[start + shape] = NO_WAY;
                    } else if (k == m - 1) {
                        costs[start + shape] = 0;
                    }
                }
            }
        }

        /**
         * Each cost becomes the least of all with the difference to it. Differences are sums over
         * PIECES, and the GRID has every mix of WIDTHS: so it is enough to go along each PIECE once
         * up and once down.
         */
        private void spread(int start) {
            for (int piece = 0; piece < pieces; piece++) {
                int span = strides[piece] * sizes[piece];
                for (int at = 0; span > 0 && at < total; at += span) {
                    for (int i = 1; i < sizes[piece]; i++) {
                        lower(start + at, piece, i - 1, i);
                    }
                    for (int i = sizes[piece] - 1; i > 0; i--) {
                        lower(start + at, piece, i, i - 1);
                    }
                }
            }
        }

        /** Among shapes that are alike but for a PIECE: from those with one choice to those with the next. */
        private void lower(int start, int piece, int from, int to) {
            int first = piece * MOST_CHOICES;
            int far = Math.abs(choices[first + to] - choices[first + from]);
            int stride = strides[piece];
            for (int i = 0; i < stride; i++) {
                int target = start + to * stride + i;
                costs[target] = Math.min(costs[target], costs[start + from * stride + i] + far);
            }
        }

        int firstOfRow() {
            int best = NONE;
            int least = NO_WAY;
            for (int shape = 0; shape < total; shape++) {
                if (costs[shape] < least) {
                    least = costs[shape];
                    best = shape;
                }
            }
            return best;
        }

        int sumOfRow(int first) {
            return costs[first];
        }

        /** The k-th shape of the row: each next one is the first that keeps the sum least. */
        int shapeOfRow(int first, int k) {
            int shape = first;
            for (int i = 1; i <= k; i++) {
                int due = costs[(i - 1) * total + shape];
                for (int j = 0; j < pieces; j++) {
                    widths[j] = widthIn(shape, j);
                }
                shape = firstOnTheWay(i * total, due);
            }
            return shape;
        }

        private int firstOnTheWay(int start, int due) {
            for (int shape = 0; shape < total; shape++) {
                if (costs[start + shape] < NO_WAY && costs[start + shape] + distance(shape, widths) == due) {
                    return shape;
                }
            }
            return 0;
        }
    }
}
