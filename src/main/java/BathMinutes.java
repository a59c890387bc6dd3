import java.util.NoSuchElementException;

/** A darkroom by the minute. What each call answers is promised, by number, in DOC.md. */
public final class BathMinutes {
    public static final int NONE = -1;

    private static final int MOST_BATHS = 6;
    private static final int MOST_PAPERS = 5;
    private static final int MOST_SHEETS = 8;
    private static final int MOST_ASKED = 30;
    private static final int MOST_AT_ONCE = 60;
    private static final int LAST_MINUTE = 1000;
    private static final int FAR_ENOUGH = 200;
    private static final int IMAGES = 2;

    // How a SHEET is, as sheet(s, 1) tells it.
    private static final int WAITING = 0;
    private static final int IN_BATH = 1;
    private static final int DONE = 2;
    private static final int SPOILT = 3;

    // The kinds of FAULTS.
    private static final int CANNOT_COME = 1;
    private static final int NUMBER_OFF = 2;
    private static final int NAME_OFF = 3;
    private static final int TOO_MANY = 4;

    // The WORDS that no NAME may be; the numbers below are their places in this row.
    private static final String KEYWORDS = "bath paper sheet spare weak fresh start take again renew minute or and not waiting done spoilt held in of left over tries number";
    private static final int KEYS = 24;
    private static final int KEY_BATH = 0;
    private static final int KEY_PAPER = 1;
    private static final int KEY_SHEET = 2;
    private static final int KEY_SPARE = 3;
    private static final int KEY_WEAK = 4;
    private static final int KEY_FRESH = 5;
    private static final int KEY_START = 6;
    private static final int KEY_TAKE = 7;
    private static final int KEY_AGAIN = 8;
    private static final int KEY_RENEW = 9;
    private static final int KEY_MINUTE = 10;
    private static final int KEY_OR = 11;
    private static final int KEY_AND = 12;
    private static final int KEY_NOT = 13;
    private static final int KEY_WAITING = 14;
    private static final int KEY_DONE = 15;
    private static final int KEY_SPOILT = 16;
    private static final int KEY_HELD = 17;
    private static final int KEY_IN = 18;
    private static final int KEY_OF = 19;
    private static final int KEY_LEFT = 20;
    private static final int KEY_OVER = 21;
    private static final int KEY_TRIES = 22;
    private static final int KEY_NUMBER = 23;

    private final Tape tape = new Tape();
    private final Room room = new Room();
    private final Room roomDraft = new Room();
    private final Lab lab = new Lab(room);
    private final Lab trial = new Lab(room);
    private final Sentence sentence = new Sentence();
    private final Sentence sentenceDraft = new Sentence();
    private final Book diary = new Book();
    private final Past past = new Past();
    private final Plan plan = new Plan(room, lab, trial);
    private final Papers papers = new Papers(room);
    private final Draws draws = new Draws();
    private final Tag label = new Tag();
    private final Image[] images = new Image[IMAGES];

    public BathMinutes() {
        for (int k = 0; k < IMAGES; k++) {
            images[k] = new Image();
        }
    }

    public int feed(int a, int b, int c, int d, int e) {
        if (tape.length + 20 > Tape.MOST_BYTES) {
            return NONE;
        }
        tape.addNumber(a);
        tape.addNumber(b);
        tape.addNumber(c);
        tape.addNumber(d);
        tape.addNumber(e);
        return tape.length;
    }

    public boolean end(int n) {
        if (n < 0 || n > tape.length) {
            return false;
        }
        tape.length = n;
        return true;
    }

    public int room() {
        int lines = roomDraft.readLines(tape);
        tape.length = 0;
        if (tape.fault != 0) {
            return -1 - tape.faultPlace;
        }
        room.copyFrom(roomDraft);
        lab.begin();
        sentence.wipe();
        past.forget();
        return lines;
    }

    public int fault() {
        return tape.fault;
    }

    public int bath(int b, int what) {
        if (!room.hasBath(b)) {
            return NONE;
        }
        switch (what) {
            case 0: return room.holds[b];
            case 1: return room.lasts[b];
            case 2: return lab.hadBy(b);
            case 3: return lab.insideOf(b);
            case 4: return lab.isOpen(b) ? 1 : 0;
            case 5: return lab.needOf(b);
            default: return NONE;
        }
    }

    public int asks(int p, int b) {
        return room.hasPaper(p) && room.hasBath(b) ? room.asked(p, b) : NONE;
    }

    public int sheet(int s, int what) throws NoSuchElementException {
        if (!room.hasSheet(s) || what < 0 || what > 6) {
            throw new NoSuchElementException();
        }
        return what == 0 ? room.paperOf[s] : lab.tellSheet(s, what);
    }

    public int now(int what) {
        switch (what) {
            case 0: return lab.minute();
            case 1: return lab.allThatAre(WAITING);
            case 2: return lab.allThatAre(IN_BATH);
            case 3: return lab.allThatAre(DONE);
            case 4: return lab.allThatAre(SPOILT);
            case 5: return lab.allHeld();
            case 6: return lab.openBaths();
            case 7: return lab.freshLeft();
            default: return NONE;
        }
    }

    public int start(int s) {
        past.mark(lab);
        return keptIfDone(lab.startSheet(s));
    }

    public int take(int s) {
        past.mark(lab);
        return keptIfDone(lab.takeSheet(s));
    }

    public int again(int s) {
        past.mark(lab);
        return keptIfDone(lab.againSheet(s));
    }

    public int renew(int b) {
        past.mark(lab);
        return keptIfDone(lab.renewBath(b));
    }

    private int keptIfDone(int why) {
        if (why == 0) {
            past.keepMarked();
        }
        return why;
    }

    public int minutes(int n) {
        if (n < 1 || n > MOST_AT_ONCE) {
            return NONE;
        }
        past.mark(lab);
        int gone = Math.min(n, LAST_MINUTE - lab.minute());
        lab.pass(gone);
        return keptIfAny(gone);
    }

    private int keptIfAny(int gone) {
        if (gone > 0) {
            past.keepMarked();
        }
        return gone;
    }

    public int undo() {
        return past.takeBack(lab);
    }

    public int when(int s) {
        return plan.whenDone(s);
    }

    public int clear(int s) {
        return lab.howIs(s) == WAITING ? plan.soonest(lab, s) : NONE;
    }

    public int order() {
        boolean asTold = plan.readRow(tape);
        tape.length = 0;
        return asTold ? plan.bestOrder() : NONE;
    }

    public int orderAt(int k) {
        return k >= 0 && k < plan.bestLength ? plan.bestRow[k] : NONE;
    }

    public int orderWhen(int k) {
        return k >= 0 && k < plan.bestLength ? plan.bestStarts[k] : NONE;
    }

    public int jam() {
        return lab.jammedBath();
    }

    public int who() {
        int sheets = papers.sheetsByTape(tape);
        tape.length = 0;
        if (sheets > 0) {
            papers.chooseQuestion(sheets);
        }
        return sheets;
    }

    public int ask() {
        return papers.question;
    }

    public int near(int p) {
        return papers.mostAlike(p);
    }

    public int through(int p) {
        return papers.minutesOf(p);
    }

    public int gap(int p, int q) {
        return room.hasPaper(p) && room.hasPaper(q) ? papers.gapOf(p, q) : NONE;
    }

    public int chain() {
        return papers.bestChain();
    }

    public int chainAt(int k) {
        return k >= 0 && k < papers.chainLength ? papers.chainRow[k] : NONE;
    }

    public int load(int b, int k) {
        if (!room.hasBath(b) || k < 0 || k > FAR_ENOUGH) {
            return NONE;
        }
        trial.copyFrom(lab);
        trial.pass(k);
        return trial.insideOf(b);
    }

    public int block(int s) {
        if (!lab.isHeld(s)) {
            return NONE;
        }
        return lab.insideOf(room.bathAfter(s, lab.bathOf(s)));
    }

    public int wear(int b, int what) throws NoSuchElementException {
        if (!room.hasBath(b) || what < 0 || what > 1) {
            throw new NoSuchElementException();
        }
        return inLeastTerms(lab.hadBy(b), room.lasts[b], what);
    }

    public int mean(int what) throws NoSuchElementException {
        if (room.sheets == 0 || what < 0 || what > 1) {
            throw new NoSuchElementException();
        }
        return inLeastTerms(lab.minutesOver(), room.sheets, what);
    }

    public int often() {
        return lab.mostStarted();
    }

    public int tag(int s) {
        if (!room.hasSheet(s)) {
            return NONE;
        }
        label.write(room, lab, s);
        return label.length;
    }

    public int byteAt(int i) {
        return i >= 0 && i < label.length ? label.bytes[i] : NONE;
    }

    public int drawn(int n, int seed) {
        if (n < 1 || n > MOST_AT_ONCE) {
            return NONE;
        }
        past.mark(lab);
        return keptIfAny(draws.liveMinutes(lab, n, seed));
    }

    public int odds(int s, int n, int seed) {
        if (!room.hasSheet(s) || n < 1 || n > 30) {
            return NONE;
        }
        int done = 0;
        for (int i = 0; i < n; i++) {
            trial.copyFrom(lab);
            draws.liveMinutes(trial, 40, seed + i);
            if (trial.howIs(s) == DONE) {
                done++;
            }
        }
        return done;
    }

    public int book(int lives) {
        if (lives != 0 && lives != 1) {
            return -1000;
        }
        boolean readable = diary.readLines(tape, room);
        tape.length = 0;
        if (!readable) {
            return -2 - tape.faultPlace;
        }
        trial.copyFrom(lab);
        diary.live(trial);
        if (lives == 1 && diary.ahead > 0) {
            past.mark(lab);
            past.keepMarked();
            lab.copyFrom(trial);
        }
        return diary.why == 0 ? NONE : diary.ahead;
    }

    public int told(int what) {
        return diary.tell(what);
    }

    public int sentence() {
        boolean readable = sentenceDraft.readAll(tape, room);
        tape.length = 0;
        if (!readable) {
            return -1 - tape.faultPlace;
        }
        sentence.copyFrom(sentenceDraft);
        return sentence.ones;
    }

    public int said(int k) {
        if (sentence.ones == 0 || k < NONE) {
            return NONE;
        }
        int sheets = sentence.sheetsOf(room, lab);
        return k == NONE ? Integer.bitCount(sheets) : bitAt(sheets, k);
    }

    public boolean image(int k) {
        if (k < 0 || k >= images.length) {
            return false;
        }
        images[k].keep(room, lab, sentence);
        return true;
    }

    public boolean restore(int k) {
        if (k < 0 || k >= images.length || !images[k].full) {
            return false;
        }
        images[k].giveBack(room, lab, sentence);
        past.forget();
        return true;
    }

    public int count(int what) {
        switch (what) {
            case 0: return room.baths;
            case 1: return room.papers;
            case 2: return room.sheets;
            case 3: return room.spare;
            case 4: return room.weak;
            case 5: return room.fresh;
            case 6: return tape.length;
            default: return NONE;
        }
    }

    /** The number of the k-th bit that is set, from 0; NONE: there are not so many. */
    private static int bitAt(int bits, int k) {
        int ahead = 0;
        for (int s = 0; s < MOST_SHEETS; s++) {
            if ((bits >> s & 1) != 0) {
                if (ahead == k) {
                    return s;
                }
                ahead++;
            }
        }
        return NONE;
    }

    private static int inLeastTerms(int above, int below, int what) {
        int divisor = below;
        int rest = above;
        for (int i = 0; i < 1000000 && rest != 0 && divisor != 0; i++) {
            int next = divisor % rest;
            divisor = rest;
            rest = next;
        }
        int told = what == 0 ? above : below;
        return divisor == 0 ? told : told / divisor;
    }

    /** Makes of a row of numbers the next one, number by number; false: it was the last one. */
    private static boolean makeNextRow(int[] row, int length) {
        int i = length - 2;
        while (i >= 0 && row[i] >= row[i + 1]) {
            i--;
        }
        if (i < 0) {
            return false;
        }
        int j = length - 1;
        while (j > i && row[j] <= row[i]) {
            j--;
        }
        swap(row, i, j);
        int high = length - 1;
        for (int low = i + 1; low < high; low++) {
            swap(row, low, high);
            high--;
        }
        return true;
    }

    private static void swap(int[] row, int i, int j) {
        int kept = row[i];
        row[i] = row[j];
        row[j] = kept;
    }

    /** The bytes that were fed, and the TOKENS that are read from them. */
    private static final class Tape {
        static final int MOST_BYTES = 940;

        // The kinds of TOKENS; BAD is one that can never come.
        static final int END = 0;
        static final int NAME = 1;
        static final int KEY = 2;
        static final int NUMBER = 3;
        static final int SIGN = 4;
        static final int BAD = 5;

        private static final int LONGEST_WORD = 7;
        private static final int LONGEST_NUMBER = 3;

        final int[] bytes = new int[MOST_BYTES];
        int length;
        int fault;
        int faultPlace;

        int kind;
        int key;
        int number;
        // letters packed by five bits each, the first one highest
        long word;
        private int place;
        private int at;
        private int mostTold;
        private final long[] keys = new long[KEYS];

        Tape() {
            int k = 0;
            for (int i = 0; i < KEYWORDS.length() && k < KEYS; i++) {
                char c = KEYWORDS.charAt(i);
                if (c == ' ') {
                    k++;
                } else {
                    keys[k] = (keys[k] << 5) + c - 96;
                }
            }
        }

        void addNumber(int number) {
            for (int shift = 24; shift >= 0 && length < MOST_BYTES; shift -= 8) {
                bytes[length] = number >>> shift & 255;
                length++;
            }
        }

        /** Reading begins; the text is of mostTold bytes at most. */
        void begin(int mostTold) {
            this.mostTold = mostTold;
            fault = 0;
            faultPlace = 0;
            at = 0;
            next();
        }

        void next() {
            while (at < length && (bytes[at] == 32 || bytes[at] == 10)) {
                at++;
            }
            place = at;
            key = NONE;
            if (length > mostTold && at >= mostTold) {
                place = mostTold;
                kind = BAD;
            } else if (at >= length) {
                kind = END;
            } else if (isMark(bytes[at])) {
                number = bytes[at];
                kind = SIGN;
                at++;
            } else {
                readRun();
            }
        }

        /** Small letters and digits as far as they go on; none at all are no TOKEN. */
        private void readRun() {
            int letters = 0;
            int digits = 0;
            word = 0;
            number = 0;
            for (; at < length; at++) {
                int c = bytes[at];
                if (c >= 'a' && c <= 'z') {
                    letters++;
                    word = (word << 5) + c - 96;
                } else if (c >= '0' && c <= '9') {
                    digits++;
                    number = number * 10 + c - '0';
                } else {
                    break;
                }
            }
            kind = BAD;
            if (digits == 0 && letters >= 1 && letters <= LONGEST_WORD) {
                kind = NAME;
            } else if (letters == 0 && digits >= 1 && digits <= LONGEST_NUMBER) {
                kind = NUMBER;
            }
            for (int k = 0; k < KEYS && kind == NAME; k++) {
                if (keys[k] == word) {
                    key = k;
                    kind = KEY;
                }
            }
        }

        private static boolean isMark(int c) {
            return c == ';' || c == '<' || c == '=' || c == '>' || c == '(' || c == ')';
        }

        boolean isEnd() {
            return kind == END;
        }

        boolean isSign(int c) {
            return kind == SIGN && number == c;
        }

        /** A FAULT at the TOKEN that was read last; false, so that it can be handed on. */
        boolean fail(int faultKind) {
            fault = faultKind;
            faultPlace = place;
            return false;
        }

        boolean passSign(int c) {
            if (!isSign(c)) {
                return fail(CANNOT_COME);
            }
            next();
            return true;
        }

        /** The NUMBER that comes; NONE: a FAULT. */
        int passNumber(int least, int most) {
            int passed = number;
            if (kind != NUMBER) {
                fail(CANNOT_COME);
                return NONE;
            }
            if (passed < least || passed > most) {
                fail(NUMBER_OFF);
                return NONE;
            }
            next();
            return passed;
        }

        /** The sign of comparing that comes; NONE: a FAULT. */
        int passComparing() {
            int passed = number;
            if (!isSign('<') && !isSign('=') && !isSign('>')) {
                fail(CANNOT_COME);
                return NONE;
            }
            next();
            return passed;
        }
    }

    /** What is told of a ROOM: BATHS, PAPERS, SHEETS and the three numbers. */
    private static final class Room {
        private static final int MOST_BYTES = 900;

        // Where the NAMES of each sort begin in the row of all NAMES.
        static final int BATH_NAMES = 0;
        static final int PAPER_NAMES = BATH_NAMES + MOST_BATHS;
        static final int SHEET_NAMES = PAPER_NAMES + MOST_PAPERS;
        private static final int ALL_NAMES = SHEET_NAMES + MOST_SHEETS;

        int baths;
        int papers;
        int sheets;
        int spare;
        int weak;
        int fresh = 5;
        final int[] holds = new int[MOST_BATHS];
        final int[] lasts = new int[MOST_BATHS];
        final int[] paperOf = new int[MOST_SHEETS];
        final long[] names = new long[ALL_NAMES];
        private final int[] minutes = new int[MOST_PAPERS * MOST_BATHS];
        private int toldOnce;

        boolean hasBath(int b) {
            return b >= 0 && b < baths;
        }

        boolean hasPaper(int p) {
            return p >= 0 && p < papers;
        }

        boolean hasSheet(int s) {
            return s >= 0 && s < sheets;
        }

        /** Minutes that a PAPER asks in a BATH; 0 if there is no such one. */
        int asked(int p, int b) {
            return p >= 0 && p < papers && b >= 0 && b < baths ? minutes[p * MOST_BATHS + b] : 0;
        }

        /** The first BATH behind b (NONE: of all) for which a SHEET's PAPER asks; NONE: there is none. */
        int bathAfter(int s, int b) {
            if (!hasSheet(s) || b < NONE) {
                return NONE;
            }
            for (int next = b + 1; next < baths; next++) {
                if (minutes[paperOf[s] * MOST_BATHS + next] > 0) {
                    return next;
                }
            }
            return NONE;
        }

        void copyFrom(Room other) {
            baths = other.baths;
            papers = other.papers;
            sheets = other.sheets;
            spare = other.spare;
            weak = other.weak;
            fresh = other.fresh;
            System.arraycopy(other.holds, 0, holds, 0, MOST_BATHS);
            System.arraycopy(other.lasts, 0, lasts, 0, MOST_BATHS);
            System.arraycopy(other.paperOf, 0, paperOf, 0, MOST_SHEETS);
            System.arraycopy(other.names, 0, names, 0, ALL_NAMES);
            System.arraycopy(other.minutes, 0, minutes, 0, MOST_PAPERS * MOST_BATHS);
        }

        private void wipe() {
            baths = 0;
            papers = 0;
            sheets = 0;
            spare = 0;
            weak = 0;
            fresh = 5;
            toldOnce = 0;
        }

        /** Reads the tape as a ROOM: how many LINES; NONE: there is a FAULT. */
        int readLines(Tape tape) {
            wipe();
            tape.begin(MOST_BYTES);
            for (int line = 0; line <= MOST_BYTES; line++) {
                if (tape.isEnd()) {
                    return line;
                }
                if (!readLine(tape) || !tape.passSign(';')) {
                    return NONE;
                }
            }
            return NONE;
        }

        private boolean readLine(Tape tape) {
            switch (tape.key) {
                case KEY_BATH: return readBath(tape);
                case KEY_PAPER: return readPaper(tape);
                case KEY_SHEET: return readSheet(tape);
                case KEY_SPARE:
                case KEY_WEAK:
                case KEY_FRESH: return readOnce(tape);
                default: return tape.fail(CANNOT_COME);
            }
        }

        private boolean readBath(Tape tape) {
            if (papers > 0) {
                return tape.fail(NAME_OFF);
            }
            if (baths >= MOST_BATHS) {
                return tape.fail(TOO_MANY);
            }
            tape.next();
            if (!passNewName(tape, BATH_NAMES + baths)) {
                return false;
            }
            int most = tape.passNumber(1, 4);
            int all = most == NONE ? NONE : tape.passNumber(1, 99);
            if (all == NONE) {
                return false;
            }
            holds[baths] = most;
            lasts[baths] = all;
            baths++;
            return true;
        }

        private boolean readPaper(Tape tape) {
            if (papers >= MOST_PAPERS) {
                return tape.fail(TOO_MANY);
            }
            tape.next();
            if (!passNewName(tape, PAPER_NAMES + papers)) {
                return false;
            }
            for (int b = 0; b < baths; b++) {
                int asked = tape.passNumber(0, MOST_ASKED);
                if (asked == NONE) {
                    return false;
                }
                minutes[papers * MOST_BATHS + b] = asked;
            }
            papers++;
            return true;
        }

        private boolean readSheet(Tape tape) {
            if (sheets >= MOST_SHEETS) {
                return tape.fail(TOO_MANY);
            }
            tape.next();
            if (!passNewName(tape, SHEET_NAMES + sheets)) {
                return false;
            }
            int p = passKnown(tape, PAPER_NAMES, papers);
            if (p == NONE) {
                return false;
            }
            paperOf[sheets] = p;
            sheets++;
            return true;
        }

        private boolean readOnce(Tape tape) {
            int key = tape.key;
            if ((toldOnce >> key & 1) != 0) {
                return tape.fail(NAME_OFF);
            }
            toldOnce |= 1 << key;
            tape.next();
            int told = tape.passNumber(0, key == KEY_FRESH ? 99 : 9);
            if (told == NONE) {
                return false;
            }
            if (key == KEY_SPARE) {
                spare = told;
            } else if (key == KEY_WEAK) {
                weak = told;
            } else {
                fresh = told;
            }
            return true;
        }

        private boolean passNewName(Tape tape, int slot) {
            if (tape.kind != Tape.NAME) {
                return tape.fail(CANNOT_COME);
            }
            long name = tape.word;
            if (numberOf(name, BATH_NAMES, baths) != NONE || numberOf(name, PAPER_NAMES, papers) != NONE
                    || numberOf(name, SHEET_NAMES, sheets) != NONE) {
                return tape.fail(NAME_OFF);
            }
            if (slot >= 0 && slot < ALL_NAMES) {
                names[slot] = name;
            }
            tape.next();
            return true;
        }

        /** Which of the told ones of a sort has the NAME that comes; NONE: a FAULT. */
        int passKnown(Tape tape, int first, int told) {
            if (tape.kind != Tape.NAME) {
                tape.fail(CANNOT_COME);
                return NONE;
            }
            int number = numberOf(tape.word, first, told);
            if (number == NONE) {
                tape.fail(NAME_OFF);
                return NONE;
            }
            tape.next();
            return number;
        }

        private int numberOf(long name, int first, int told) {
            for (int i = 0; i < told && first + i < ALL_NAMES; i++) {
                if (names[first + i] == name) {
                    return i;
                }
            }
            return NONE;
        }
    }

    /** All that is so in a ROOM at a MINUTE, and what can be done in it. */
    private static final class Lab {
        // All of it stands in one row, so that it is kept and given back by one copy.
        private static final int HAD = 0;
        private static final int INSIDE = HAD + MOST_BATHS;
        private static final int HOW = INSIDE + MOST_BATHS;
        private static final int WHERE = HOW + MOST_SHEETS;
        private static final int LEFT = WHERE + MOST_SHEETS;
        private static final int OVER_HERE = LEFT + MOST_SHEETS;
        private static final int OVER_ALL = OVER_HERE + MOST_SHEETS;
        private static final int TRIES = OVER_ALL + MOST_SHEETS;
        private static final int MINUTE = TRIES + MOST_SHEETS;
        private static final int FRESH = MINUTE + 1;
        static final int CELLS = FRESH + 1;

        private final Room room;
        private final int[] cells = new int[CELLS];

        Lab(Room room) {
            this.room = room;
            begin();
        }

        void begin() {
            for (int i = 0; i < CELLS; i++) {
                cells[i] = i >= WHERE && i < LEFT ? NONE : 0;
            }
            cells[FRESH] = room.fresh;
        }

        void copyFrom(Lab other) {
            System.arraycopy(other.cells, 0, cells, 0, CELLS);
        }

        void putInto(int[] kept) {
            System.arraycopy(cells, 0, kept, 0, Math.min(CELLS, kept.length));
        }

        void takeFrom(int[] kept) {
            System.arraycopy(kept, 0, cells, 0, Math.min(CELLS, kept.length));
        }

        int minute() {
            return cells[MINUTE];
        }

        int freshLeft() {
            return cells[FRESH];
        }

        int hadBy(int b) {
            return room.hasBath(b) ? cells[HAD + b] : 0;
        }

        int insideOf(int b) {
            return room.hasBath(b) ? cells[INSIDE + b] : 0;
        }

        boolean isOpen(int b) {
            return room.hasBath(b) && Integer.bitCount(cells[INSIDE + b]) < room.holds[b]
                && cells[HAD + b] < room.lasts[b];
        }

        int openBaths() {
            int open = 0;
            for (int b = 0; b < room.baths; b++) {
                if (isOpen(b)) {
                    open |= 1 << b;
                }
            }
            return open;
        }

        int howIs(int s) {
            return room.hasSheet(s) ? cells[HOW + s] : NONE;
        }

        int bathOf(int s) {
            return room.hasSheet(s) ? cells[WHERE + s] : NONE;
        }

        int leftOf(int s) {
            return room.hasSheet(s) ? cells[LEFT + s] : 0;
        }

        int overOf(int s) {
            return room.hasSheet(s) ? cells[OVER_ALL + s] : 0;
        }

        int triesOf(int s) {
            return room.hasSheet(s) ? cells[TRIES + s] : 0;
        }

        boolean isHeld(int s) {
            return howIs(s) == IN_BATH && cells[LEFT + s] == 0;
        }

        /** What sheet(s, what) tells behind the PAPER, as it is numbered there. */
        int tellSheet(int s, int what) {
            switch (what) {
                case 1: return howIs(s);
                case 2: return bathOf(s);
                case 3: return leftOf(s);
                case 4: return room.hasSheet(s) ? cells[OVER_HERE + s] : 0;
                case 5: return overOf(s);
                default: return triesOf(s);
            }
        }

        int allThatAre(int how) {
            int all = 0;
            for (int s = 0; s < room.sheets; s++) {
                if (cells[HOW + s] == how) {
                    all |= 1 << s;
                }
            }
            return all;
        }

        int allHeld() {
            int held = 0;
            for (int s = 0; s < room.sheets; s++) {
                if (isHeld(s)) {
                    held |= 1 << s;
                }
            }
            return held;
        }

        int minutesOver() {
            int all = 0;
            for (int s = 0; s < room.sheets; s++) {
                all += cells[OVER_ALL + s];
            }
            return all;
        }

        int mostStarted() {
            int most = 0;
            int which = NONE;
            for (int s = 0; s < room.sheets; s++) {
                if (cells[TRIES + s] > most) {
                    most = cells[TRIES + s];
                    which = s;
                }
            }
            return which;
        }

        /** How often a BATH must be RENEWED for all that are yet to come into it. */
        int needOf(int b) {
            if (!room.hasBath(b) || room.lasts[b] < 1) {
                return NONE;
            }
            int coming = 0;
            for (int s = 0; s < room.sheets; s++) {
                boolean ahead = cells[HOW + s] == WAITING || cells[HOW + s] == IN_BATH && cells[WHERE + s] < b;
                if (ahead && room.asked(room.paperOf[s], b) > 0) {
                    coming++;
                }
            }
            int lacking = cells[HAD + b] + coming - room.lasts[b];
            return lacking <= 0 ? 0 : (lacking + room.lasts[b] - 1) / room.lasts[b];
        }

        int jammedBath() {
            int which = NONE;
            int most = 0;
            int holds = 1;
            for (int b = 0; b < room.baths; b++) {
                int asked = askedByWaiting(b);
                // by multiplying crosswise, as minutes for each one held are fractions
                if (which == NONE || asked * holds > most * room.holds[b]) {
                    which = b;
                    most = asked;
                    holds = room.holds[b];
                }
            }
            return which;
        }

        private int askedByWaiting(int b) {
            int asked = 0;
            for (int s = 0; s < room.sheets; s++) {
                if (cells[HOW + s] == WAITING) {
                    asked += room.asked(room.paperOf[s], b);
                }
            }
            return asked;
        }

        /** 0, or why not; NONE: no such one. So are all acts below. */
        int startSheet(int s) {
            if (!room.hasSheet(s)) {
                return NONE;
            }
            if (cells[HOW + s] != WAITING) {
                return 1;
            }
            int b = room.bathAfter(s, NONE);
            if (b != NONE && !isOpen(b)) {
                return 2;
            }
            cells[OVER_ALL + s] = 0;
            cells[TRIES + s]++;
            if (b == NONE) {
                settle(s, DONE);
            } else {
                enter(s, b);
            }
            return 0;
        }

        int takeSheet(int s) {
            if (!room.hasSheet(s)) {
                return NONE;
            }
            if (cells[HOW + s] != IN_BATH) {
                return 1;
            }
            settle(s, SPOILT);
            return 0;
        }

        int againSheet(int s) {
            if (!room.hasSheet(s)) {
                return NONE;
            }
            if (cells[HOW + s] != SPOILT) {
                return 1;
            }
            settle(s, WAITING);
            return 0;
        }

        int renewBath(int b) {
            if (!room.hasBath(b)) {
                return NONE;
            }
            if (cells[HAD + b] == 0) {
                return 1;
            }
            if (cells[FRESH] <= 0) {
                return 2;
            }
            if (cells[INSIDE + b] != 0) {
                return 3;
            }
            cells[HAD + b] = 0;
            cells[FRESH]--;
            return 0;
        }

        /** MINUTES go by, without a look at how many there are; those in which nothing comes to its end at once. */
        void pass(int n) {
            int left = n;
            while (left > 0) {
                int quiet = quietMinutes(left);
                if (quiet > 0) {
                    skip(quiet);
                    left -= quiet;
                    continue;
                }
                for (int b = room.baths - 1; b >= 0; b--) {
                    int inside = cells[INSIDE + b];
                    for (int s = 0; s < room.sheets && inside >> s != 0; s++) {
                        if ((inside >> s & 1) != 0) {
                            work(s, b);
                        }
                    }
                }
                cells[MINUTE]++;
                left--;
            }
        }

        /** In how many MINUTES from now on, most at most, all SHEETS keep minutes LEFT. */
        private int quietMinutes(int most) {
            int least = most;
            for (int s = 0; s < room.sheets; s++) {
                if (cells[HOW + s] == IN_BATH && cells[LEFT + s] - 1 < least) {
                    least = cells[LEFT + s] - 1;
                }
            }
            return least;
        }

        private void skip(int quiet) {
            for (int s = 0; s < room.sheets; s++) {
                if (cells[HOW + s] == IN_BATH) {
                    cells[LEFT + s] -= quiet;
                }
            }
            cells[MINUTE] += quiet;
        }

        boolean isBusy() {
            return allThatAre(IN_BATH) != 0;
        }

        private void work(int s, int b) {
            if (cells[LEFT + s] > 0) {
                cells[LEFT + s]--;
            }
            if (cells[LEFT + s] > 0) {
                return;
            }
            int next = room.bathAfter(s, b);
            if (next == NONE) {
                settle(s, DONE);
            } else if (isOpen(next)) {
                enter(s, next);
            } else if (cells[OVER_HERE + s] >= room.spare) {
                settle(s, SPOILT);
            } else {
                cells[OVER_HERE + s]++;
                cells[OVER_ALL + s]++;
            }
        }

        private void enter(int s, int b) {
            settle(s, IN_BATH);
            boolean isWeak = 2 * cells[HAD + b] >= room.lasts[b];
            cells[WHERE + s] = b;
            cells[LEFT + s] = room.asked(room.paperOf[s], b) + (isWeak ? room.weak : 0);
            cells[INSIDE + b] |= 1 << s;
            cells[HAD + b]++;
        }

        /** A SHEET leaves the BATH in which it may be, and is so. */
        private void settle(int s, int how) {
            int b = cells[WHERE + s];
            if (b >= 0) {
                cells[INSIDE + b] &= ~(1 << s);
            }
            cells[HOW + s] = how;
            cells[WHERE + s] = NONE;
            cells[LEFT + s] = 0;
            cells[OVER_HERE + s] = 0;
        }
    }

    /** What would go on: WHEN, CLEAR and ORDER. */
    private static final class Plan {
        private static final int LONGEST_WAIT = 300;
        private static final int LATEST_START = 60;
        private static final int MOST_IN_ROW = 3;
        private static final int MOST_ROWS = 6;

        private final Lab now;
        private final Lab trial;
        private final Lab near;
        private final Lab far;
        private final Lab step;
        private final int[] row = new int[MOST_IN_ROW];
        private final int[] starts = new int[MOST_IN_ROW];
        private int rowLength;
        final int[] bestRow = new int[MOST_IN_ROW];
        final int[] bestStarts = new int[MOST_IN_ROW];
        int bestLength;

        Plan(Room room, Lab now, Lab trial) {
            this.now = now;
            this.trial = trial;
            near = new Lab(room);
            far = new Lab(room);
            step = new Lab(room);
        }

        int whenDone(int s) {
            trial.copyFrom(now);
            for (int gone = 0; gone <= LONGEST_WAIT; gone++) {
                if (trial.howIs(s) == DONE) {
                    return gone;
                }
                if (trial.howIs(s) != IN_BATH) {
                    return NONE;
                }
                trial.pass(1);
            }
            return NONE;
        }

        /** CLEAR of a WAITING SHEET by what is so in a Lab. */
        int soonest(Lab from, int s) {
            near.copyFrom(from);
            far.copyFrom(from);
            far.pass(FAR_ENOUGH);
            for (int wait = 0; wait <= LATEST_START; wait++) {
                trial.copyFrom(near);
                if (trial.startSheet(s) == 0) {
                    trial.pass(FAR_ENOUGH);
                    int spoiltByIt = trial.allThatAre(SPOILT) & ~far.allThatAre(SPOILT);
                    if (trial.howIs(s) == DONE && spoiltByIt == 0) {
                        return wait;
                    }
                }
                if (!near.isBusy()) {
                    return NONE;
                }
                near.pass(1);
                far.pass(1);
            }
            return NONE;
        }

        /** Reads the tape as unlike SHEETS that are WAITING, the least first. */
        boolean readRow(Tape tape) {
            if (tape.length < 1 || tape.length > MOST_IN_ROW) {
                return false;
            }
            for (int i = 0; i < tape.length; i++) {
                int s = tape.bytes[i];
                if (now.howIs(s) != WAITING) {
                    return false;
                }
                int k = i;
                for (; k > 0 && row[k - 1] > s; k--) {
                    row[k] = row[k - 1];
                }
                if (k > 0 && row[k - 1] == s) {
                    return false;
                }
                row[k] = s;
            }
            rowLength = tape.length;
            return true;
        }

        int bestOrder() {
            int best = NONE;
            boolean more = true;
            for (int i = 0; i < MOST_ROWS && more; i++) {
                int end = endOfRow();
                if (end != NONE && (best == NONE || end < best)) {
                    best = end;
                    bestLength = rowLength;
                    System.arraycopy(row, 0, bestRow, 0, MOST_IN_ROW);
                    System.arraycopy(starts, 0, bestStarts, 0, MOST_IN_ROW);
                }
                more = makeNextRow(row, rowLength);
            }
            return best;
        }

        /** In how many MINUTES the last of the row is DONE; NONE: it can't be. */
        private int endOfRow() {
            int gone = 0;
            int all = 0;
            step.copyFrom(now);
            for (int k = 0; k < rowLength && k < MOST_IN_ROW; k++) {
                int wait = soonest(step, row[k]);
                if (wait == NONE) {
                    return NONE;
                }
                step.pass(wait);
                step.startSheet(row[k]);
                gone += wait;
                starts[k] = gone;
                all |= 1 << row[k];
            }
            for (int more = 0; more <= FAR_ENOUGH; more++) {
                if ((step.allThatAre(DONE) & all) == all) {
                    return gone + more;
                }
                step.pass(1);
            }
            return NONE;
        }
    }

    /** What is asked of PAPERS by their minutes alone. */
    private static final class Papers {
        private static final int MOST_PAIRS = 6;
        private static final int MOST_ROWS = 120;

        private final Room room;
        private final int[] gaps = new int[MOST_PAPERS * MOST_PAPERS];
        private final int[] row = new int[MOST_PAPERS];
        final int[] chainRow = new int[MOST_PAPERS];
        int chainLength;
        int question = NONE;

        Papers(Room room) {
            this.room = room;
        }

        int minutesOf(int p) {
            if (!room.hasPaper(p)) {
                return NONE;
            }
            int all = 0;
            for (int b = 0; b < room.baths; b++) {
                all += room.asked(p, b);
            }
            return all;
        }

        int mostAlike(int p) {
            int which = NONE;
            int least = 0;
            for (int q = 0; q < room.papers && room.hasPaper(p); q++) {
                int apart = 0;
                for (int b = 0; b < room.baths; b++) {
                    apart += Math.abs(room.asked(p, b) - room.asked(q, b));
                }
                if (q != p && (which == NONE || apart < least)) {
                    which = q;
                    least = apart;
                }
            }
            return which;
        }

        int gapOf(int p, int q) {
            for (int gap = 0; gap <= MOST_BATHS * MOST_ASKED; gap++) {
                if (!meet(p, q, gap)) {
                    return gap;
                }
            }
            return NONE;
        }

        /** Whether a BATH that HOLDS one would be asked by both at once, the second STARTED later. */
        private boolean meet(int p, int q, int later) {
            int first = 0;
            int second = later;
            for (int b = 0; b < room.baths; b++) {
                int firstAsks = room.asked(p, b);
                int secondAsks = room.asked(q, b);
                if (firstAsks > 0 && secondAsks > 0 && first < second + secondAsks && second < first + firstAsks) {
                    return true;
                }
                first += firstAsks;
                second += secondAsks;
            }
            return false;
        }

        int bestChain() {
            int papers = room.papers;
            for (int p = 0; p < papers; p++) {
                row[p] = p;
                for (int q = 0; q < papers; q++) {
                    gaps[p * MOST_PAPERS + q] = gapOf(p, q);
                }
            }
            int best = NONE;
            boolean more = true;
            for (int i = 0; i < MOST_ROWS && more; i++) {
                int all = gapsOfRow(papers);
                if (best == NONE || all < best) {
                    best = all;
                    System.arraycopy(row, 0, chainRow, 0, MOST_PAPERS);
                }
                more = makeNextRow(row, papers);
            }
            chainLength = papers;
            return best;
        }

        private int gapsOfRow(int papers) {
            int all = 0;
            for (int k = 0; k + 1 < papers; k++) {
                all += gaps[row[k] * MOST_PAPERS + row[k + 1]];
            }
            return all;
        }

        /** WHO by the tape, as bits; NONE: the tape is not as told. */
        int sheetsByTape(Tape tape) {
            int length = tape.length;
            if (length < 2 || length > 2 * MOST_PAIRS || length % 2 != 0) {
                return NONE;
            }
            int sheets = (1 << room.sheets) - 1;
            for (int i = 0; i + 1 < length; i += 2) {
                if (!room.hasBath(tape.bytes[i])) {
                    return NONE;
                }
                sheets &= sheetsThatAsk(tape.bytes[i], tape.bytes[i + 1]);
            }
            return sheets;
        }

        private int sheetsThatAsk(int b, int asked) {
            int sheets = 0;
            for (int s = 0; s < room.sheets; s++) {
                if (room.asked(room.paperOf[s], b) == asked) {
                    sheets |= 1 << s;
                }
            }
            return sheets;
        }

        /** Chosen when WHO tells the SHEETS, as a new ROOM has others and what was told stays. */
        void chooseQuestion(int sheets) {
            int least = MOST_SHEETS + 1;
            for (int b = 0; b < room.baths; b++) {
                int mostLeft = 0;
                for (int s = 0; s < room.sheets; s++) {
                    if ((sheets >> s & 1) != 0) {
                        int alike = sheetsThatAsk(b, room.asked(room.paperOf[s], b)) & sheets;
                        mostLeft = Math.max(mostLeft, Integer.bitCount(alike));
                    }
                }
                if (mostLeft < least) {
                    least = mostLeft;
                    question = b;
                }
            }
        }
    }

    /** MINUTES in which draws tell what is done. */
    private static final class Draws {
        private int x;

        /** How many of n MINUTES went by. */
        int liveMinutes(Lab lab, int n, int seed) {
            x = seed;
            int gone = 0;
            while (gone < n && lab.minute() < LAST_MINUTE) {
                actByDraw(lab);
                lab.pass(1);
                gone++;
            }
            return gone;
        }

        private void actByDraw(Lab lab) {
            int sheets = lab.room.sheets;
            int baths = lab.room.baths;
            int what = draw(8);
            if (what <= 2 && sheets > 0) {
                lab.startSheet(draw(sheets));
            } else if (what == 3 && sheets > 0) {
                lab.againSheet(draw(sheets));
            } else if (what == 4 && baths > 0) {
                lab.renewBath(draw(baths));
            } else if (what == 5 && draw(4) == 0 && sheets > 0) {
                lab.takeSheet(draw(sheets));
            }
        }

        private int draw(int n) {
            x = x * 1103515245 + 12345;
            return n < 1 ? 0 : (x >>> 8) % n;
        }
    }

    /** The LINES of a BOOK, and what was told of the latest one that had no FAULT. */
    private static final class Book {
        private static final int MOST_BYTES = 400;
        private static final int MOST_LINES = 40;
        private static final int TOO_FEW_MINUTES = 41;

        private final int[] acts = new int[MOST_LINES];
        private final int[] ofWhat = new int[MOST_LINES];
        private int lines;
        private boolean judged;
        int why;
        int ahead;
        private int minuteThen;
        private int doneThen;

        boolean readLines(Tape tape, Room room) {
            lines = 0;
            tape.begin(MOST_BYTES);
            for (int line = 0; line <= MOST_BYTES; line++) {
                if (tape.isEnd()) {
                    return true;
                }
                if (!readLine(tape, room) || !tape.passSign(';')) {
                    return false;
                }
            }
            return false;
        }

        private boolean readLine(Tape tape, Room room) {
            int act = tape.key;
            if (act < KEY_START || act > KEY_MINUTE) {
                return tape.fail(CANNOT_COME);
            }
            if (lines >= MOST_LINES) {
                return tape.fail(TOO_MANY);
            }
            tape.next();
            int what;
            if (act == KEY_MINUTE) {
                what = tape.passNumber(1, MOST_AT_ONCE);
            } else if (act == KEY_RENEW) {
                what = room.passKnown(tape, Room.BATH_NAMES, room.baths);
            } else {
                what = room.passKnown(tape, Room.SHEET_NAMES, room.sheets);
            }
            if (what == NONE) {
                return false;
            }
            acts[lines] = act;
            ofWhat[lines] = what;
            lines++;
            return true;
        }

        /** Lives the LINES as far as none is WRONG, and tells of them. */
        void live(Lab lab) {
            why = 0;
            ahead = 0;
            while (ahead < lines && ahead < MOST_LINES) {
                why = liveLine(lab, acts[ahead], ofWhat[ahead]);
                if (why != 0) {
                    break;
                }
                ahead++;
            }
            judged = true;
            minuteThen = lab.minute();
            doneThen = lab.allThatAre(DONE);
        }

        private static int liveLine(Lab lab, int act, int what) {
            switch (act) {
                case KEY_START: return lab.startSheet(what);
                case KEY_TAKE: return moreThan(10, lab.takeSheet(what));
                case KEY_AGAIN: return moreThan(20, lab.againSheet(what));
                case KEY_RENEW: return moreThan(30, lab.renewBath(what));
                default:
                    if (lab.minute() + what > LAST_MINUTE) {
                        return TOO_FEW_MINUTES;
                    }
                    lab.pass(what);
                    return 0;
            }
        }

        private static int moreThan(int base, int why) {
            return why == 0 ? 0 : base + why;
        }

        int tell(int what) {
            if (!judged) {
                return NONE;
            }
            switch (what) {
                case 0: return why;
                case 1: return ahead;
                case 2: return minuteThen;
                case 3: return doneThen;
                default: return NONE;
            }
        }
    }

    /** A SENTENCE, as steps over a pile of rows of SHEETS (as bits). */
    private static final class Sentence {
        private static final int MOST_BYTES = 200;
        private static final int MOST_ONES = 20;
        private static final int MOST_WITHIN = 8;
        // one step for each ONE at most, and one for each 'and' and 'or' between them
        private static final int MOST_STEPS = 2 * MOST_ONES;

        int ones;
        private int steps;
        private final int[] does = new int[MOST_STEPS];
        private final int[] first = new int[MOST_STEPS];
        private final int[] second = new int[MOST_STEPS];
        private final int[] pile = new int[MOST_STEPS];

        void wipe() {
            ones = 0;
            steps = 0;
        }

        void copyFrom(Sentence other) {
            ones = other.ones;
            steps = other.steps;
            System.arraycopy(other.does, 0, does, 0, MOST_STEPS);
            System.arraycopy(other.first, 0, first, 0, MOST_STEPS);
            System.arraycopy(other.second, 0, second, 0, MOST_STEPS);
        }

        boolean readAll(Tape tape, Room room) {
            wipe();
            tape.begin(MOST_BYTES);
            if (!readCond(tape, room, 1)) {
                return false;
            }
            return tape.isEnd() || tape.fail(CANNOT_COME);
        }

        /** An 'or' waits for all ONES that 'and' joins behind it. */
        private boolean readCond(Tape tape, Room room, int depth) {
            boolean orWaits = false;
            if (!readOne(tape, room, depth)) {
                return false;
            }
            for (int i = 0; i <= MOST_ONES; i++) {
                boolean isAnd = tape.key == KEY_AND;
                if (orWaits && !isAnd) {
                    addStep(KEY_OR, 0, 0);
                }
                if (!isAnd && tape.key != KEY_OR) {
                    return true;
                }
                tape.next();
                if (!readOne(tape, room, depth)) {
                    return false;
                }
                if (isAnd) {
                    addStep(KEY_AND, 0, 0);
                } else {
                    orWaits = true;
                }
            }
            return tape.fail(TOO_MANY);
        }

        private boolean readOne(Tape tape, Room room, int depth) {
            boolean isBracket = tape.isSign('(');
            if (!isBracket && tape.key < KEY_NOT) {
                return tape.fail(CANNOT_COME);
            }
            if (ones >= MOST_ONES || depth > MOST_WITHIN) {
                return tape.fail(TOO_MANY);
            }
            ones++;
            int key = tape.key;
            tape.next();
            if (isBracket) {
                return readCond(tape, room, depth + 1) && tape.passSign(')');
            }
            if (key == KEY_NOT) {
                return readOne(tape, room, depth + 1) && addStep(KEY_NOT, 0, 0);
            }
            return readSaying(tape, room, key);
        }

        private boolean readSaying(Tape tape, Room room, int key) {
            int a = 0;
            int b = 0;
            if (key == KEY_IN) {
                a = room.passKnown(tape, Room.BATH_NAMES, room.baths);
            } else if (key == KEY_OF) {
                a = room.passKnown(tape, Room.PAPER_NAMES, room.papers);
            } else if (key >= KEY_LEFT) {
                a = tape.passComparing();
                b = a == NONE ? NONE : tape.passNumber(0, 999);
            }
            return a != NONE && b != NONE && addStep(key, a, b);
        }

        private boolean addStep(int what, int a, int b) {
            if (steps >= MOST_STEPS) {
                return false;
            }
            does[steps] = what;
            first[steps] = a;
            second[steps] = b;
            steps++;
            return true;
        }

        /** SHEETS of which it may be said, as bits. */
        int sheetsOf(Room room, Lab lab) {
            int all = (1 << room.sheets) - 1;
            int high = 0;
            pile[0] = 0;
            for (int i = 0; i < steps && i < MOST_STEPS; i++) {
                if (does[i] == KEY_NOT && high >= 1) {
                    pile[high - 1] = all & ~pile[high - 1];
                } else if (does[i] == KEY_AND && high >= 2) {
                    high--;
                    pile[high - 1] &= pile[high];
                } else if (does[i] == KEY_OR && high >= 2) {
                    high--;
                    pile[high - 1] |= pile[high];
                } else if (high < MOST_STEPS) {
                    pile[high] = sheetsOfStep(room, lab, i);
                    high++;
                }
            }
            return pile[0];
        }

        private int sheetsOfStep(Room room, Lab lab, int i) {
            switch (does[i]) {
                case KEY_WAITING: return lab.allThatAre(WAITING);
                case KEY_DONE: return lab.allThatAre(DONE);
                case KEY_SPOILT: return lab.allThatAre(SPOILT);
                case KEY_HELD: return lab.allHeld();
                case KEY_IN: return lab.insideOf(first[i]);
                default: return sheetsThatCompare(room, lab, i);
            }
        }

        private int sheetsThatCompare(Room room, Lab lab, int i) {
            int sheets = 0;
            for (int s = 0; s < room.sheets; s++) {
                boolean so;
                switch (does[i]) {
                    case KEY_OF: so = room.paperOf[s] == first[i]; break;
                    case KEY_LEFT: so = compares(lab.leftOf(s), i); break;
                    case KEY_OVER: so = compares(lab.overOf(s), i); break;
                    case KEY_TRIES: so = compares(lab.triesOf(s), i); break;
                    default: so = compares(s, i); break;
                }
                if (so) {
                    sheets |= 1 << s;
                }
            }
            return sheets;
        }

        private boolean compares(int value, int i) {
            if (first[i] == '<') {
                return value < second[i];
            }
            return first[i] == '>' ? value > second[i] : value == second[i];
        }
    }

    /** What was so ahead of the latest acts, so that they can be undone. */
    private static final class Past {
        private static final int MOST = 8;
        // one slot more than can be undone: what is marked but not kept drops nothing
        private static final int SLOTS = MOST + 1;

        private final int[][] slots = new int[SLOTS][Lab.CELLS];
        private int next;
        private int kept;

        void mark(Lab lab) {
            lab.putInto(slots[next]);
        }

        void keepMarked() {
            next = next + 1 < SLOTS ? next + 1 : 0;
            kept = Math.min(kept + 1, MOST);
        }

        void forget() {
            kept = 0;
        }

        /** How many more can be undone; NONE: none was. */
        int takeBack(Lab lab) {
            if (kept == 0) {
                return NONE;
            }
            next = next > 0 ? next - 1 : SLOTS - 1;
            kept--;
            lab.takeFrom(slots[next]);
            return kept;
        }
    }

    /** A place in which ROOM, all that is so and the SENTENCE are kept. */
    private static final class Image {
        private final Room keptRoom = new Room();
        private final Sentence keptSentence = new Sentence();
        private final int[] cells = new int[Lab.CELLS];
        boolean full;

        void keep(Room room, Lab lab, Sentence sentence) {
            keptRoom.copyFrom(room);
            keptSentence.copyFrom(sentence);
            lab.putInto(cells);
            full = true;
        }

        void giveBack(Room room, Lab lab, Sentence sentence) {
            room.copyFrom(keptRoom);
            sentence.copyFrom(keptSentence);
            lab.takeFrom(cells);
        }
    }

    /** The TAG of a SHEET. */
    private static final class Tag {
        private static final int MOST_BYTES = 24;

        final int[] bytes = new int[MOST_BYTES];
        int length;

        void write(Room room, Lab lab, int s) {
            length = 0;
            if (!room.hasSheet(s)) {
                return;
            }
            addName(room.names[Room.SHEET_NAMES + s]);
            switch (lab.howIs(s)) {
                case WAITING: addText(" waits"); break;
                case DONE: addText(" done"); break;
                case SPOILT: addText(" spoilt"); break;
                default: writeBath(room, lab, s); break;
            }
        }

        private void writeBath(Room room, Lab lab, int s) {
            int b = lab.bathOf(s);
            if (!room.hasBath(b)) {
                return;
            }
            addText(" in ");
            addName(room.names[Room.BATH_NAMES + b]);
            add(' ');
            int left = lab.leftOf(s);
            if (left > 9) {
                add('0' + left / 10);
            }
            add('0' + left % 10);
        }

        private void addName(long packed) {
            for (int shift = 30; shift >= 0; shift -= 5) {
                int letter = (int) (packed >> shift & 31);
                if (letter != 0) {
                    add(96 + letter);
                }
            }
        }

        private void addText(String text) {
            for (int i = 0; i < text.length(); i++) {
                add(text.charAt(i));
            }
        }

        private void add(int c) {
            if (length < MOST_BYTES) {
                bytes[length] = c;
                length++;
            }
        }
    }
}
