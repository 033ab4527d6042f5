import java.util.NoSuchElementException;

/**
 * A book that several people read in pieces and tell one another, with loss.
 * All rows are made with the object and used again, so that no call makes objects.
 */
public final class NineReaders {
    public static final int NONE = -1;

    private static final int NOT_AS_TOLD = -2;
    private static final int MILLION = 1000000;
    private static final int MOST_CHAPS = 16;
    private static final int MOST_READERS = 9;
    private static final int PLACES = 2;
    private static final int BOOK_BYTES = 1000;
    private static final int PLAN_BYTES = 700;
    private static final int SENTENCE_BYTES = 200;

    private final Scan scan;
    private final Minds behind;
    private final Maker maker;
    private final Illness illness;
    private final Share share;
    private final Cuts cuts;
    private final Row row;
    private final Choice choice;
    private final Book[] keptBooks;
    private final Plan[] keptPlans;
    private final Sentence[] keptSentences;
    private final boolean[] kept;
    private Book nowBook;
    private Book spareBook;
    private Plan nowPlan;
    private Plan sparePlan;
    private Sentence nowSentence;
    private Sentence spareSentence;
    /** Whether 'behind' holds the RUN of the BOOK and PLAN of now. */
    private boolean ran;
    private int latestWhy;

    public NineReaders() {
        scan = new Scan();
        nowBook = new Book();
        spareBook = new Book();
        nowPlan = new Plan();
        sparePlan = new Plan();
        nowSentence = new Sentence();
        spareSentence = new Sentence();
        behind = new Minds(nowBook);
        maker = new Maker(nowBook, nowPlan);
        illness = new Illness(nowBook);
        share = new Share(nowBook);
        cuts = new Cuts();
        row = new Row(nowBook);
        choice = new Choice(nowBook);
        keptBooks = new Book[PLACES];
        keptPlans = new Plan[PLACES];
        keptSentences = new Sentence[PLACES];
        kept = new boolean[PLACES];
        for (int k = 0; k < PLACES; k++) {
            keptBooks[k] = new Book();
            keptPlans[k] = new Plan();
            keptSentences[k] = new Sentence();
        }
        ran = false;
        latestWhy = 0;
    }

    public int feed(int a, int b, int c, int d, int e) {
        if (!scan.hasRoom(20)) {
            return NONE;
        }
        scan.append(a);
        scan.append(b);
        scan.append(c);
        scan.append(d);
        scan.append(e);
        return scan.length;
    }

    public boolean end(int n) {
        if (n < 0 || n > scan.length) {
            return false;
        }
        scan.length = n;
        return true;
    }

    public int book() {
        scan.start(BOOK_BYTES);
        boolean good = spareBook.readFrom(scan);
        scan.length = 0;
        if (!good) {
            return scan.faultAnswer();
        }
        Book old = nowBook;
        nowBook = spareBook;
        spareBook = old;
        nowPlan.clear();
        nowSentence.clear();
        ran = false;
        return nowBook.lines;
    }

    public int fault() {
        return scan.faultKind;
    }

    public int chap(int c, int what) throws NoSuchElementException {
        if (!nowBook.hasChap(c) || what < 0 || what > 3) {
            throw new NoSuchElementException();
        }
        switch (what) {
            case 0:
                return nowBook.pages[c];
            case 1:
                return nowBook.worth[c];
            case 2:
                return nowBook.must[c];
            default:
                return nowBook.leansOnHowMany(c);
        }
    }

    public int leans(int c, int d) {
        if (!nowBook.hasChap(c) || !nowBook.hasChap(d)) {
            return NONE;
        }
        return nowBook.lean[c][d];
    }

    public int reader(int r, int what) throws NoSuchElementException {
        if (!nowBook.hasReader(r) || what < 0 || what > 4) {
            throw new NoSuchElementException();
        }
        switch (what) {
            case 0:
                return nowBook.pace[r];
            case 1:
                return nowBook.tell[r];
            case 2:
                return nowBook.keep[r];
            case 3:
                return nowBook.time[r];
            default:
                return nowBook.skips[r];
        }
    }

    public int plan() {
        scan.start(PLAN_BYTES);
        boolean good = sparePlan.readFrom(scan, nowBook);
        scan.length = 0;
        if (!good) {
            return scan.faultAnswer();
        }
        Plan old = nowPlan;
        nowPlan = sparePlan;
        sparePlan = old;
        ran = false;
        return nowPlan.acts;
    }

    public int make(int kind, int k) {
        if (!Maker.isKind(kind, k)) {
            return NONE;
        }
        maker.begin(nowBook, nowPlan);
        maker.fill(kind, k);
        ran = false;
        return nowPlan.acts;
    }

    public int drawn(int n, int seed) {
        if (n < 1 || n > Plan.MOST_TOLD || nowBook.readers < 2 || nowBook.chaps < 1) {
            return NONE;
        }
        maker.begin(nowBook, nowPlan);
        maker.drawActs(n, seed);
        ran = false;
        return nowPlan.acts;
    }

    public int act(int i, int what) throws NoSuchElementException {
        if (i < 0 || i >= nowPlan.acts || what < 0 || what > 3) {
            throw new NoSuchElementException();
        }
        switch (what) {
            case 0:
                return nowPlan.who[i];
            case 1:
                return nowPlan.what[i];
            case 2:
                return nowPlan.full[i];
            default:
                return nowPlan.hear[i];
        }
    }

    public int run() {
        runOnce();
        latestWhy = behind.whyWrong;
        return behind.wrongAt;
    }

    public int why() {
        return latestWhy;
    }

    public int known(int r, int c) {
        if (!nowBook.hasReader(r) || !nowBook.hasChap(c)) {
            return NONE;
        }
        runOnce();
        return behind.parts[r * MOST_CHAPS + c];
    }

    public int after(int r, int what) {
        if (!nowBook.hasReader(r)) {
            return NONE;
        }
        runOnce();
        switch (what) {
            case 0:
                return behind.left[r];
            case 1:
                return behind.inAll(r);
            case 2:
                return behind.hasRead[r];
            case 3:
                return behind.wasTold[r];
            default:
                return NONE;
        }
    }

    public int all(int what) {
        runOnce();
        switch (what) {
            case 0:
                return behind.sum();
            case 1:
                return behind.sent();
            case 2:
                return behind.unreadMusts();
            case 3:
                return behind.lacking();
            default:
                return NONE;
        }
    }

    public int best(int m, int w) {
        if (m < 1 || m > Share.MOST_M || m > nowBook.chaps) {
            return NONE;
        }
        if (w < 1 || w > Share.MOST_W || w > nowBook.readers) {
            return NONE;
        }
        return share.search(nowBook, m, w);
    }

    public int bestOf(int c) {
        return c < 0 || c >= share.told ? NONE : share.first[c];
    }

    public int cut(int k, int pages) {
        if (k < 1 || k > Cuts.MOST_STRETCHES || pages < 1 || pages > 999) {
            return NOT_AS_TOLD;
        }
        return cuts.stretch(nowBook, k, pages);
    }

    public int cutAt(int i) {
        return i < 0 || i >= cuts.stretches ? NONE : cuts.ends[i];
    }

    public int net(int pages) {
        int places = scan.length;
        scan.length = 0;
        if (pages < 1 || pages > 9999 || !scan.areUnlike(places, Cuts.MOST_SIDED, nowBook.chaps)) {
            return NOT_AS_TOLD;
        }
        return cuts.divide(nowBook, scan, places, pages);
    }

    public int netSide() {
        return cuts.side;
    }

    public int chain() {
        int places = scan.length;
        scan.length = 0;
        if (!scan.areUnlike(places, Row.MOST_PLACES, nowBook.readers)) {
            return NONE;
        }
        return row.search(nowBook, scan, places);
    }

    public int chainAt(int i) {
        return i < 0 || i >= row.told ? NONE : row.first[i];
    }

    public int alone(int r, int what) {
        if (!nowBook.hasReader(r) || what < 0 || what > 1) {
            return NONE;
        }
        choice.readAlone(nowBook, r);
        return what == 0 ? choice.worth : choice.set;
    }

    public int leave(int what) {
        if (nowBook.readers < 1 || what < 0 || what > 1) {
            return NONE;
        }
        choice.leaveOut(nowBook);
        return what == 0 ? choice.worth : choice.set;
    }

    public int extra(int what) {
        if (what < 0 || what > 2) {
            return NONE;
        }
        runOnce();
        behind.findExtra();
        switch (what) {
            case 0:
                return behind.extraGain;
            case 1:
                return behind.extraReader;
            default:
                return behind.extraChap;
        }
    }

    public int ask() {
        int bytes = scan.length;
        scan.length = 0;
        if (bytes < 2 || bytes > 2 * Choice.MOST_QUESTIONS || bytes % 2 != 0) {
            return NOT_AS_TOLD;
        }
        runOnce();
        return choice.askFewest(scan, bytes / 2, nowBook.chaps, behind.lacking());
    }

    public int asked() {
        return choice.questions;
    }

    public int seen(int r, int x) {
        if (!nowBook.hasReader(r) || x < 1 || x > MILLION) {
            return NOT_AS_TOLD;
        }
        long unseen = 1000000000000000L;
        long most = unseen / x;
        int not = 10 - nowBook.skips[r];
        for (int questions = 0; questions <= 300; questions++) {
            if (unseen <= most) {
                return questions;
            }
            unseen = unseen * not / 10;
        }
        return NONE;
    }

    public int ill(int r, int act, int what) {
        if (!nowBook.hasReader(r) || act < 0 || act > nowPlan.acts || what < 0 || what > 3) {
            return NONE;
        }
        illness.fall(nowBook, nowPlan, r, act);
        switch (what) {
            case 0:
                return illness.sum;
            case 1:
                return illness.dropped;
            case 2:
                return illness.helper;
            default:
                return illness.helpedSum;
        }
    }

    public int sentence() {
        scan.start(SENTENCE_BYTES);
        boolean good = spareSentence.readFrom(scan, nowBook);
        scan.length = 0;
        if (!good) {
            return scan.faultAnswer();
        }
        Sentence old = nowSentence;
        nowSentence = spareSentence;
        spareSentence = old;
        return nowSentence.ones;
    }

    public int said() {
        if (nowSentence.ones == 0) {
            return NONE;
        }
        runOnce();
        int readers = 0;
        for (int r = 0; r < nowBook.readers; r++) {
            if (nowSentence.holds(behind, r)) {
                readers |= 1 << r;
            }
        }
        return readers;
    }

    public boolean image(int k) {
        if (k < 0 || k >= PLACES) {
            return false;
        }
        keptBooks[k].copyFrom(nowBook);
        keptPlans[k].copyFrom(nowPlan);
        keptSentences[k].copyFrom(nowSentence);
        kept[k] = true;
        return true;
    }

    public boolean restore(int k) {
        if (k < 0 || k >= PLACES || !kept[k]) {
            return false;
        }
        nowBook.copyFrom(keptBooks[k]);
        nowPlan.copyFrom(keptPlans[k]);
        nowSentence.copyFrom(keptSentences[k]);
        ran = false;
        return true;
    }

    public int count(int what) {
        switch (what) {
            case 0:
                return nowBook.chaps;
            case 1:
                return nowBook.readers;
            case 2:
                return nowPlan.acts;
            case 3:
                return nowBook.speed;
            case 4:
                return nowBook.again;
            case 5:
                return scan.length;
            default:
                return NONE;
        }
    }

    private void runOnce() {
        if (!ran) {
            behind.begin(nowBook);
            behind.follow(nowPlan);
            ran = true;
        }
    }

    /** The tape, the TOKENS of the text on it, and the first FAULT of that text. */
    private static final class Scan {
        static final int MOST_BYTES = 1040;
        /** So that the six letters of a WORD fit into its code, and unlike WORDS have unlike ones. */
        static final int LETTER_BITS = 5;

        // A sign is a kind by its own number, all of which are above those of the WORDS.
        static final int END = 0;
        static final int NO_TOKEN = 1;
        static final int NAME = 2;
        static final int NUMBER = 3;
        static final int FIRST_WORD = 4;
        static final int CHAP = 4;
        static final int ON = 5;
        static final int MUST = 6;
        static final int WHO = 7;
        static final int SKIPS = 8;
        static final int SPEED = 9;
        static final int AGAIN = 10;
        static final int READS = 11;
        static final int TELLS = 12;
        static final int TO = 13;
        static final int ALL = 14;
        static final int OR = 15;
        static final int AND = 16;
        static final int NOT = 17;
        static final int READ = 18;
        static final int TOLD = 19;
        static final int KNOWS = 20;
        static final int TOTAL = 21;
        static final int LEFT = 22;
        static final int COUNT = 23;
        static final int WORDS = 20;
        /** The WORDS that are no NAMES, by their kinds from FIRST_WORD on, a blank behind each. */
        static final String SPELLED = "chap on must who skips speed again reads tells to all or and not read told knows total left count ";

        static final int CANT_COME = 1;
        static final int NOT_IN_RANGE = 2;
        static final int WRONG_NAME = 3;
        static final int TOO_MANY = 4;

        final byte[] bytes;
        final int[] wordCodes;
        int length;
        int limit;
        int at;
        int place;
        int kind;
        /** The NUMBER, or the code of the WORD. */
        int value;
        /** The value of the TOKEN that was taken last. */
        int taken;
        int faultKind;
        int faultPlace;

        Scan() {
            bytes = new byte[MOST_BYTES];
            wordCodes = new int[WORDS];
            int word = 0;
            int code = 0;
            for (int i = 0; i < SPELLED.length() && word < WORDS; i++) {
                char letter = SPELLED.charAt(i);
                if (letter == ' ') {
                    wordCodes[word] = code;
                    word++;
                    code = 0;
                } else {
                    code = code << LETTER_BITS | letter - 'a' + 1;
                }
            }
        }

        boolean hasRoom(int more) {
            return length + more <= MOST_BYTES;
        }

        void append(int number) {
            for (int shift = 24; shift >= 0 && length < MOST_BYTES; shift -= 8) {
                bytes[length] = (byte) (number >>> shift);
                length++;
            }
        }

        int byteAt(int i) {
            return i < 0 || i >= MOST_BYTES ? 0 : bytes[i] & 255;
        }

        /** Whether the first bytes are 2 to most unlike ones, each below the bound. */
        boolean areUnlike(int places, int most, int bound) {
            if (places < 2 || places > most) {
                return false;
            }
            int met = 0;
            for (int i = 0; i < places; i++) {
                int one = byteAt(i);
                if (one >= bound || (met >> one & 1) != 0) {
                    return false;
                }
                met |= 1 << one;
            }
            return true;
        }

        void start(int mostBytes) {
            limit = mostBytes;
            at = 0;
            faultKind = 0;
            faultPlace = 0;
            next();
        }

        void next() {
            while (at < length && (bytes[at] == 32 || bytes[at] == 10)) {
                at++;
            }
            place = at;
            if (length > limit && at >= limit) {
                place = limit;
                kind = NO_TOKEN;
            } else if (at >= length) {
                kind = END;
            } else if (isSign(bytes[at])) {
                kind = bytes[at];
                at++;
            } else {
                nextWordOrNumber();
            }
        }

        /** Also what is neither of them, nor a sign. */
        private void nextWordOrNumber() {
            int letters = 0;
            int digits = 0;
            value = 0;
            for (; at < length; at++) {
                int one = bytes[at];
                if (one >= 'a' && one <= 'z') {
                    letters++;
                    value = value << LETTER_BITS | one - 'a' + 1;
                } else if (one >= '0' && one <= '9') {
                    digits++;
                    value = value * 10 + one - '0';
                } else {
                    break;
                }
            }
            kind = NO_TOKEN;
            if (digits == 0 && letters >= 1 && letters <= 6) {
                kind = NAME;
                for (int i = 0; i < WORDS; i++) {
                    if (wordCodes[i] == value) {
                        kind = FIRST_WORD + i;
                    }
                }
            } else if (letters == 0 && digits >= 1 && digits <= 3) {
                kind = NUMBER;
            }
        }

        private static boolean isSign(int one) {
            return one == ';' || one == '(' || one == ')' || one == '<' || one == '=' || one == '>';
        }

        static boolean isComparison(int one) {
            return one == '<' || one == '=' || one == '>';
        }

        /** A FAULT at the TOKEN of now; false, so that a caller can answer it. */
        boolean fail(int fault) {
            faultKind = fault;
            faultPlace = place;
            return false;
        }

        int faultAnswer() {
            return -1 - faultPlace;
        }

        boolean take(int wanted) {
            if (kind != wanted) {
                return fail(CANT_COME);
            }
            taken = value;
            next();
            return true;
        }

        boolean takeNumber(int least, int most) {
            if (kind != NUMBER) {
                return fail(CANT_COME);
            }
            if (value < least || value > most) {
                return fail(NOT_IN_RANGE);
            }
            taken = value;
            next();
            return true;
        }

        /** Takes a NAME that must be one of a CHAP; its number is taken. */
        boolean takeChap(Book book) {
            if (kind != NAME) {
                return fail(CANT_COME);
            }
            int c = book.chapNamed(value);
            if (c == NONE) {
                return fail(WRONG_NAME);
            }
            next();
            taken = c;
            return true;
        }
    }

    /** A BOOK: its CHAPS and READERS, and what reading and telling give by them. */
    private static final class Book {
        final int[] chapName;
        final int[] pages;
        final int[] worth;
        final int[] must;
        final int[][] lean;
        final int[] readerName;
        final int[] pace;
        final int[] tell;
        final int[] keep;
        final int[] time;
        final int[] skips;
        int chaps;
        int readers;
        int lines;
        int speed;
        int again;
        private boolean speedTold;
        private boolean againTold;

        Book() {
            chapName = new int[MOST_CHAPS];
            pages = new int[MOST_CHAPS];
            worth = new int[MOST_CHAPS];
            must = new int[MOST_CHAPS];
            lean = new int[MOST_CHAPS][MOST_CHAPS];
            readerName = new int[MOST_READERS];
            pace = new int[MOST_READERS];
            tell = new int[MOST_READERS];
            keep = new int[MOST_READERS];
            time = new int[MOST_READERS];
            skips = new int[MOST_READERS];
            clear();
        }

        private void clear() {
            chaps = 0;
            readers = 0;
            lines = 0;
            speed = 20;
            again = 8;
            speedTold = false;
            againTold = false;
        }

        void copyFrom(Book other) {
            copyRow(other.chapName, chapName, other.chaps);
            copyRow(other.pages, pages, other.chaps);
            copyRow(other.worth, worth, other.chaps);
            copyRow(other.must, must, other.chaps);
            for (int c = 0; c < other.chaps; c++) {
                copyRow(other.lean[c], lean[c], MOST_CHAPS);
            }
            copyRow(other.readerName, readerName, other.readers);
            copyRow(other.pace, pace, other.readers);
            copyRow(other.tell, tell, other.readers);
            copyRow(other.keep, keep, other.readers);
            copyRow(other.time, time, other.readers);
            copyRow(other.skips, skips, other.readers);
            chaps = other.chaps;
            readers = other.readers;
            lines = other.lines;
            speed = other.speed;
            again = other.again;
        }

        static void copyRow(int[] from, int[] to, int length) {
            if (length > 0 && length <= from.length && length <= to.length) {
                System.arraycopy(from, 0, to, 0, length);
            }
        }

        boolean hasChap(int c) {
            return c >= 0 && c < chaps;
        }

        boolean hasReader(int r) {
            return r >= 0 && r < readers;
        }

        int chapNamed(int name) {
            return placeOf(name, chapName, chaps);
        }

        int readerNamed(int name) {
            return placeOf(name, readerName, readers);
        }

        private static int placeOf(int name, int[] names, int many) {
            for (int i = 0; i < many && i < names.length; i++) {
                if (names[i] == name) {
                    return i;
                }
            }
            return NONE;
        }

        int leansOnHowMany(int c) {
            int many = 0;
            for (int d = 0; d < c; d++) {
                if (lean[c][d] > 0) {
                    many++;
                }
            }
            return many;
        }

        boolean readFrom(Scan scan) {
            clear();
            // Each LINE takes a TOKEN, so there are fewer LINES than bytes.
            for (int i = 0; i < Scan.MOST_BYTES && scan.kind != Scan.END; i++) {
                boolean good;
                switch (scan.kind) {
                    case Scan.CHAP:
                        good = readChap(scan);
                        break;
                    case Scan.WHO:
                        good = readReader(scan);
                        break;
                    case Scan.SPEED:
                        good = readSpeed(scan);
                        break;
                    case Scan.AGAIN:
                        good = readAgain(scan);
                        break;
                    default:
                        good = scan.fail(Scan.CANT_COME);
                        break;
                }
                if (!good || !scan.take(';')) {
                    return false;
                }
                lines++;
            }
            return true;
        }

        private boolean readChap(Scan scan) {
            int c = chaps;
            if (c >= MOST_CHAPS) {
                return scan.fail(Scan.TOO_MANY);
            }
            scan.next();
            if (!takeNewName(scan)) {
                return false;
            }
            chapName[c] = scan.taken;
            if (!scan.takeNumber(1, 999)) {
                return false;
            }
            pages[c] = scan.taken;
            if (!scan.takeNumber(0, 999)) {
                return false;
            }
            worth[c] = scan.taken;
            if (!readLeanings(scan, c)) {
                return false;
            }
            must[c] = scan.kind == Scan.MUST ? 1 : 0;
            if (must[c] == 1) {
                scan.next();
            }
            // Counted last: a CHAP can't lean on itself.
            chaps++;
            return true;
        }

        private boolean readLeanings(Scan scan, int c) {
            for (int d = 0; d < MOST_CHAPS; d++) {
                lean[c][d] = 0;
            }
            int rest = 10;
            for (int i = 0; i < MOST_CHAPS && scan.kind == Scan.ON; i++) {
                scan.next();
                int d = scan.kind == Scan.NAME ? chapNamed(scan.value) : NONE;
                if (d != NONE && lean[c][d] > 0) {
                    return scan.fail(Scan.WRONG_NAME);
                }
                if (!scan.takeChap(this) || !scan.takeNumber(1, rest)) {
                    return false;
                }
                if (d != NONE) {
                    lean[c][d] = scan.taken;
                    rest -= scan.taken;
                }
            }
            return true;
        }

        private boolean readReader(Scan scan) {
            int r = readers;
            if (r >= MOST_READERS) {
                return scan.fail(Scan.TOO_MANY);
            }
            scan.next();
            if (!takeNewName(scan)) {
                return false;
            }
            readerName[r] = scan.taken;
            if (!takeInto(scan, 1, 99, pace, r) || !takeInto(scan, 0, 10, tell, r)) {
                return false;
            }
            if (!takeInto(scan, 0, 10, keep, r) || !takeInto(scan, 0, 240, time, r)) {
                return false;
            }
            skips[r] = 0;
            if (scan.kind == Scan.SKIPS) {
                scan.next();
                if (!takeInto(scan, 0, 10, skips, r)) {
                    return false;
                }
            }
            readers++;
            return true;
        }

        private static boolean takeInto(Scan scan, int least, int most, int[] row, int i) {
            if (!scan.takeNumber(least, most)) {
                return false;
            }
            if (i >= 0 && i < row.length) {
                row[i] = scan.taken;
            }
            return true;
        }

        private boolean readSpeed(Scan scan) {
            if (speedTold) {
                return scan.fail(Scan.WRONG_NAME);
            }
            scan.next();
            if (!scan.takeNumber(1, 99)) {
                return false;
            }
            speed = scan.taken;
            speedTold = true;
            return true;
        }

        private boolean readAgain(Scan scan) {
            if (againTold) {
                return scan.fail(Scan.WRONG_NAME);
            }
            scan.next();
            if (!scan.takeNumber(0, 10)) {
                return false;
            }
            again = scan.taken;
            againTold = true;
            return true;
        }

        private boolean takeNewName(Scan scan) {
            if (scan.kind != Scan.NAME) {
                return scan.fail(Scan.CANT_COME);
            }
            if (chapNamed(scan.value) != NONE || readerNamed(scan.value) != NONE) {
                return scan.fail(Scan.WRONG_NAME);
            }
            return scan.take(Scan.NAME);
        }

        private static int cutUp(int number, int by) {
            return by < 1 ? 0 : (number + by - 1) / by;
        }

        int readTime(int r, int c) {
            return cutUp(pages[c], pace[r]);
        }

        int tellTime(int c, int fullness) {
            return cutUp(pages[c] * fullness, 4 * speed);
        }

        /** LACK at CHAP c of one whose KNOWN PARTS stand from 'from' on. */
        int lackAt(int c, int[] parts, int from) {
            int lack = 0;
            for (int d = 0; d < c; d++) {
                if (lean[c][d] > 0) {
                    lack += lean[c][d] * (MILLION - parts[from + d]);
                }
            }
            return lack / 10;
        }

        int partsRead(int r, int lack) {
            return (MILLION - lack / 2) * (10 - skips[r]) / 10;
        }

        /** What comes of PARTS told by teller to listener, but for 'again' and LACK. */
        int partsTold(int parts, int teller, int fullness, int listener) {
            int spoken = parts * tell[teller] / 10 * fullness / 4;
            return spoken * keep[listener] / 10;
        }

        int retold(int parts) {
            return parts * again / 10;
        }

        static int ofMillion(int number, int parts) {
            return (int) ((long) number * parts / MILLION);
        }
    }

    /** A PLAN: ACTS, done one behind the other. */
    private static final class Plan {
        static final int MOST_MADE = 100;
        static final int MOST_TOLD = 60;

        final int[] who;
        final int[] what;
        final int[] full;
        final int[] hear;
        int acts;

        Plan() {
            who = new int[MOST_MADE];
            what = new int[MOST_MADE];
            full = new int[MOST_MADE];
            hear = new int[MOST_MADE];
            acts = 0;
        }

        void clear() {
            acts = 0;
        }

        void copyFrom(Plan other) {
            Book.copyRow(other.who, who, other.acts);
            Book.copyRow(other.what, what, other.acts);
            Book.copyRow(other.full, full, other.acts);
            Book.copyRow(other.hear, hear, other.acts);
            acts = other.acts;
        }

        boolean isFull() {
            return acts >= MOST_MADE;
        }

        /** FULLNESS 0: it READS, and nobody listens. */
        void add(int r, int c, int fullness, int listeners) {
            if (!isFull()) {
                who[acts] = r;
                what[acts] = c;
                full[acts] = fullness;
                hear[acts] = listeners;
                acts++;
            }
        }

        boolean readFrom(Scan scan, Book book) {
            clear();
            // The ACT behind the last that may be told is a FAULT.
            for (int i = 0; i <= MOST_TOLD && scan.kind != Scan.END; i++) {
                if (!readAct(scan, book) || !scan.take(';')) {
                    return false;
                }
            }
            return true;
        }

        private boolean readAct(Scan scan, Book book) {
            if (scan.kind != Scan.NAME) {
                return scan.fail(Scan.CANT_COME);
            }
            int r = book.readerNamed(scan.value);
            if (r == NONE) {
                return scan.fail(Scan.WRONG_NAME);
            }
            if (acts >= MOST_TOLD) {
                return scan.fail(Scan.TOO_MANY);
            }
            scan.next();
            if (scan.kind == Scan.READS) {
                return readReading(scan, book, r);
            }
            return readTelling(scan, book, r);
        }

        private boolean readReading(Scan scan, Book book, int r) {
            if (!scan.take(Scan.READS) || !scan.takeChap(book)) {
                return false;
            }
            add(r, scan.taken, 0, 0);
            return true;
        }

        private boolean readTelling(Scan scan, Book book, int r) {
            if (!scan.take(Scan.TELLS) || !scan.takeChap(book)) {
                return false;
            }
            int c = scan.taken;
            if (!scan.takeNumber(1, 4)) {
                return false;
            }
            int fullness = scan.taken;
            if (!scan.take(Scan.TO) || !readListeners(scan, book, r)) {
                return false;
            }
            add(r, c, fullness, scan.taken);
            return true;
        }

        /** Takes who listens, as bits. */
        private static boolean readListeners(Scan scan, Book book, int r) {
            if (scan.kind == Scan.ALL && book.readers > 1) {
                scan.next();
                scan.taken = (1 << book.readers) - 1 & ~(1 << r);
                return true;
            }
            if (scan.kind != Scan.NAME) {
                return scan.fail(Scan.CANT_COME);
            }
            int listeners = 0;
            for (int i = 0; i < MOST_READERS && scan.kind == Scan.NAME; i++) {
                int one = book.readerNamed(scan.value);
                if (one == NONE || one == r || (listeners >> one & 1) != 0) {
                    return scan.fail(Scan.WRONG_NAME);
                }
                listeners |= 1 << one;
                scan.next();
            }
            scan.taken = listeners;
            return true;
        }
    }

    /** What READERS KNOW, have READ, were TOLD and have time left for, ACT by ACT. */
    private static final class Minds {
        static final int NO_TIME = 1;
        static final int KNOWS_NOTHING = 2;

        final int[] left;
        final int[] hasRead;
        final int[] wasTold;
        /** What is KNOWN, MOST_CHAPS for each READER. */
        final int[] parts;
        int wrongAt;
        int whyWrong;
        int extraGain;
        int extraReader;
        int extraChap;
        private Book book;

        Minds(Book first) {
            left = new int[MOST_READERS];
            hasRead = new int[MOST_READERS];
            wasTold = new int[MOST_READERS];
            parts = new int[MOST_READERS * MOST_CHAPS];
            wrongAt = NONE;
            book = first;
        }

        void begin(Book of) {
            book = of;
            for (int r = 0; r < book.readers; r++) {
                left[r] = book.time[r];
                hasRead[r] = 0;
                wasTold[r] = 0;
            }
            for (int i = 0; i < parts.length; i++) {
                parts[i] = 0;
            }
            wrongAt = NONE;
            whyWrong = 0;
        }

        void follow(Plan plan) {
            for (int i = 0; i < plan.acts && i < Plan.MOST_MADE; i++) {
                whyWrong = wrongOf(plan.who[i], plan.what[i], plan.full[i], plan.hear[i]);
                if (whyWrong != 0) {
                    wrongAt = i;
                    return;
                }
                perform(plan.who[i], plan.what[i], plan.full[i], plan.hear[i]);
            }
        }

        /** Why an ACT would be WRONG; 0: it would not. */
        int wrongOf(int r, int c, int fullness, int listeners) {
            if (fullness == 0) {
                return left[r] < book.readTime(r, c) ? NO_TIME : 0;
            }
            int takes = book.tellTime(c, fullness);
            if (left[r] < takes || (listeners & ~withTime(takes)) != 0) {
                return NO_TIME;
            }
            return parts[r * MOST_CHAPS + c] == 0 ? KNOWS_NOTHING : 0;
        }

        /** The READERS who have so many QUARTERS left, as bits. */
        int withTime(int quarters) {
            int readers = 0;
            for (int r = 0; r < book.readers; r++) {
                if (left[r] >= quarters) {
                    readers |= 1 << r;
                }
            }
            return readers;
        }

        /** Does an ACT that is not WRONG. */
        void perform(int r, int c, int fullness, int listeners) {
            if (fullness == 0) {
                left[r] -= book.readTime(r, c);
                parts[r * MOST_CHAPS + c] = partsIfRead(r, c);
                hasRead[r] |= 1 << c;
                return;
            }
            int takes = book.tellTime(c, fullness);
            left[r] -= takes;
            for (int one = 0; one < book.readers; one++) {
                if ((listeners >> one & 1) != 0) {
                    left[one] -= takes;
                    hear(one, c, r, fullness);
                }
            }
        }

        /** What r would KNOW of c, if it were READ now. */
        int partsIfRead(int r, int c) {
            int from = r * MOST_CHAPS;
            return Math.max(parts[from + c], book.partsRead(r, book.lackAt(c, parts, from)));
        }

        private void hear(int r, int c, int teller, int fullness) {
            int told = book.partsTold(parts[teller * MOST_CHAPS + c], teller, fullness, r);
            if ((hasRead[teller] >> c & 1) == 0) {
                told = book.retold(told);
            }
            int from = r * MOST_CHAPS;
            int gets = Book.ofMillion(told, MILLION - book.lackAt(c, parts, from));
            int had = parts[from + c];
            parts[from + c] = had + Book.ofMillion(MILLION - had, gets);
            wasTold[r] |= 1 << c;
        }

        /** KNOWN in all by READER r. */
        int inAll(int r) {
            int all = 0;
            for (int c = 0; c < book.chaps; c++) {
                all += Book.ofMillion(book.worth[c], parts[r * MOST_CHAPS + c]);
            }
            return all;
        }

        int sum() {
            int sum = 0;
            for (int r = 0; r < book.readers; r++) {
                sum += inAll(r);
            }
            return sum;
        }

        int sent() {
            int sent = NONE;
            int most = -1;
            for (int r = 0; r < book.readers; r++) {
                int all = inAll(r);
                if (all > most) {
                    most = all;
                    sent = r;
                }
            }
            return sent;
        }

        int unreadMusts() {
            int times = 0;
            for (int r = 0; r < book.readers; r++) {
                for (int c = 0; c < book.chaps; c++) {
                    if (book.must[c] == 1 && (hasRead[r] >> c & 1) == 0) {
                        times++;
                    }
                }
            }
            return times;
        }

        int lacking() {
            int chaps = 0;
            for (int c = 0; c < book.chaps; c++) {
                boolean half = false;
                for (int r = 0; r < book.readers && !half; r++) {
                    half = parts[r * MOST_CHAPS + c] >= MILLION / 2;
                }
                if (!half) {
                    chaps |= 1 << c;
                }
            }
            return chaps;
        }

        void findExtra() {
            extraGain = NONE;
            extraReader = NONE;
            extraChap = NONE;
            for (int r = 0; r < book.readers; r++) {
                for (int c = 0; c < book.chaps; c++) {
                    if ((hasRead[r] >> c & 1) == 0 && left[r] >= book.readTime(r, c)) {
                        offerExtra(r, c);
                    }
                }
            }
        }

        private void offerExtra(int r, int c) {
            int now = Book.ofMillion(book.worth[c], parts[r * MOST_CHAPS + c]);
            int gain = Book.ofMillion(book.worth[c], partsIfRead(r, c)) - now;
            if (gain > extraGain) {
                extraGain = gain;
                extraReader = r;
                extraChap = c;
            }
        }
    }

    /** Makes PLANS: by KINDS, and DRAWN. */
    private static final class Maker {
        static final int ROWS = 0;
        static final int LEAN = 1;
        static final int TWICE = 2;
        static final int CHAIN = 3;
        static final int ROUND = 4;

        private final Minds minds;
        /** For each CHAP the least one of those that it hangs together with. */
        private final int[] part;
        private Book book;
        private Plan plan;
        private int drawnLast;

        Maker(Book firstBook, Plan firstPlan) {
            minds = new Minds(firstBook);
            part = new int[MOST_CHAPS];
            book = firstBook;
            plan = firstPlan;
        }

        static boolean isKind(int kind, int k) {
            switch (kind) {
                case ROWS:
                    return true;
                case LEAN:
                    return k >= 1 && k <= 10;
                case TWICE:
                    return k >= 1 && k <= 16;
                case CHAIN:
                case ROUND:
                    return k >= 1 && k <= 4;
                default:
                    return false;
            }
        }

        void begin(Book ofBook, Plan toFill) {
            book = ofBook;
            plan = toFill;
            plan.clear();
            minds.begin(book);
        }

        void fill(int kind, int k) {
            if (kind == LEAN) {
                addParts(k);
                return;
            }
            addRows();
            switch (kind) {
                case TWICE:
                    addSecondReadings(k);
                    break;
                case CHAIN:
                    addChains(k);
                    break;
                case ROUND:
                    addRounds(k);
                    break;
                default:
                    break;
            }
        }

        /** Adds an ACT and does it; false, if it would be WRONG or there is no room. */
        private boolean tryAct(int r, int c, int fullness, int listeners) {
            if (plan.isFull() || minds.wrongOf(r, c, fullness, listeners) != 0) {
                return false;
            }
            minds.perform(r, c, fullness, listeners);
            plan.add(r, c, fullness, listeners);
            return true;
        }

        private void addRows() {
            int c = 0;
            for (int r = 0; r < book.readers; r++) {
                while (c < book.chaps && tryAct(r, c, 0, 0)) {
                    c++;
                }
            }
        }

        private void addParts(int k) {
            findParts(k);
            for (int p = 0; p < book.chaps; p++) {
                int r = mostLeft(0);
                if (part[p] == p && r != NONE) {
                    readPart(r, p);
                }
            }
        }

        private void readPart(int r, int p) {
            for (int c = p; c < book.chaps; c++) {
                if (part[c] == p && !tryAct(r, c, 0, 0)) {
                    return;
                }
            }
        }

        private void findParts(int k) {
            for (int c = 0; c < book.chaps; c++) {
                part[c] = c;
                for (int d = 0; d < c; d++) {
                    if (book.lean[c][d] >= k) {
                        join(part[c], part[d]);
                    }
                }
            }
        }

        private void join(int one, int other) {
            int least = Math.min(one, other);
            for (int c = 0; c < book.chaps; c++) {
                if (part[c] == one || part[c] == other) {
                    part[c] = least;
                }
            }
        }

        /** The READER with the most QUARTERS left, but for those of the bits. */
        private int mostLeft(int without) {
            int most = NONE;
            for (int r = 0; r < book.readers; r++) {
                if ((without >> r & 1) == 0 && (most == NONE || minds.left[r] > minds.left[most])) {
                    most = r;
                }
            }
            return most;
        }

        private void addSecondReadings(int k) {
            int met = 0;
            for (int i = 0; i < k && i < book.chaps; i++) {
                int c = mostWorth(met);
                met |= 1 << c;
                int r = mostLeft(readersOf(c));
                if (r != NONE) {
                    tryAct(r, c, 0, 0);
                }
            }
        }

        /** The CHAP of the most WORTH, but for those of the bits, of which there are not all. */
        private int mostWorth(int without) {
            int most = NONE;
            for (int c = 0; c < book.chaps; c++) {
                if ((without >> c & 1) == 0 && (most == NONE || book.worth[c] > book.worth[most])) {
                    most = c;
                }
            }
            return most == NONE ? 0 : most;
        }

        /** Who has READ the CHAP, as bits. */
        private int readersOf(int c) {
            int readers = 0;
            for (int r = 0; r < book.readers; r++) {
                readers |= (minds.hasRead[r] >> c & 1) << r;
            }
            return readers;
        }

        private void addChains(int k) {
            for (int c = 0; c < book.chaps; c++) {
                int teller = readerOf(c);
                // All others listen, if none is WRONG, before the one who has READ it comes again.
                for (int i = 1; i < book.readers && teller != NONE; i++) {
                    int next = teller + 1 < book.readers ? teller + 1 : 0;
                    teller = tryAct(teller, c, k, 1 << next) ? next : NONE;
                }
            }
        }

        /** The one who has READ the CHAP by ROWS. */
        private int readerOf(int c) {
            for (int r = 0; r < book.readers; r++) {
                if ((minds.hasRead[r] >> c & 1) != 0) {
                    return r;
                }
            }
            return NONE;
        }

        private void addRounds(int k) {
            for (int r = 0; r < book.readers; r++) {
                for (int c = 0; c < book.chaps; c++) {
                    if ((minds.hasRead[r] >> c & 1) != 0) {
                        int listeners = minds.withTime(book.tellTime(c, k)) & ~(1 << r);
                        if (listeners != 0) {
                            tryAct(r, c, k, listeners);
                        }
                    }
                }
            }
        }

        void drawActs(int n, int seed) {
            drawnLast = seed;
            for (int i = 0; i < n && i < Plan.MOST_TOLD; i++) {
                int r = draw(book.readers);
                int c = draw(book.chaps);
                if (draw(4) == 0) {
                    plan.add(r, c, 1 + draw(4), (1 << book.readers) - 1 & ~(1 << r));
                } else {
                    plan.add(r, c, 0, 0);
                }
            }
        }

        private int draw(int n) {
            drawnLast = drawnLast * 1103515245 + 12345;
            return n < 1 ? 0 : (drawnLast >>> 8) % n;
        }
    }

    /** ILL: a PLAN with one READER falling ill, and who HELPS. */
    private static final class Illness {
        private final Minds minds;
        /** The CHAPS that the ill one would have READ, in the order of the ACTS. */
        private final int[] missed;
        private int misses;
        int sum;
        int dropped;
        int helper;
        int helpedSum;

        Illness(Book first) {
            minds = new Minds(first);
            missed = new int[Plan.MOST_MADE];
        }

        void fall(Book book, Plan plan, int sick, int ahead) {
            minds.begin(book);
            misses = 0;
            dropped = 0;
            for (int i = 0; i < plan.acts && i < Plan.MOST_MADE; i++) {
                int gone = i >= ahead ? sick : NONE;
                if (plan.who[i] == gone && plan.full[i] == 0) {
                    missed[misses] = plan.what[i];
                    misses++;
                }
                if (!tryAct(plan, i, gone)) {
                    dropped++;
                }
            }
            sum = minds.sum();
            helper = NONE;
            helpedSum = NONE;
            for (int r = 0; r < book.readers; r++) {
                if (r != sick) {
                    offerHelp(r);
                }
            }
        }

        /** Does the ACT without the one who is gone; false: it is dropped. */
        private boolean tryAct(Plan plan, int i, int gone) {
            int listeners = plan.hear[i];
            if (gone != NONE) {
                listeners &= ~(1 << gone);
            }
            if (plan.who[i] == gone || plan.full[i] != 0 && listeners == 0) {
                return false;
            }
            if (minds.wrongOf(plan.who[i], plan.what[i], plan.full[i], listeners) != 0) {
                return false;
            }
            minds.perform(plan.who[i], plan.what[i], plan.full[i], listeners);
            return true;
        }

        /** Reading changes r's own row alone, and no later helper's SUM is told by that row. */
        private void offerHelp(int r) {
            int others = sum - minds.inAll(r);
            readMissed(r);
            int helped = others + minds.inAll(r);
            if (helped > helpedSum) {
                helpedSum = helped;
                helper = r;
            }
        }

        private void readMissed(int r) {
            for (int i = 0; i < misses; i++) {
                int c = missed[i];
                if ((minds.hasRead[r] >> c & 1) == 0) {
                    if (minds.wrongOf(r, c, 0, 0) != 0) {
                        return;
                    }
                    minds.perform(r, c, 0, 0);
                }
            }
        }
    }

    /** BEST: who should read what. */
    private static final class Share {
        static final int MOST_M = 6;
        static final int MOST_W = 4;

        /** The sharing of the latest search, and of how many CHAPS. */
        final int[] first;
        int told;
        private final int[] trial;
        private final int[] left;
        /** What each KNOWS by reading alone; what each KNOWS in the end. */
        private final int[] byReading;
        private final int[] inTheEnd;
        private Book book;
        private int m;
        private int w;
        private int greatest;

        Share(Book firstBook) {
            first = new int[MOST_M];
            trial = new int[MOST_M];
            left = new int[MOST_W];
            byReading = new int[MOST_W * MOST_CHAPS];
            inTheEnd = new int[MOST_W * MOST_CHAPS];
            book = firstBook;
        }

        int search(Book of, int chaps, int readers) {
            book = of;
            m = chaps;
            w = readers;
            told = m;
            greatest = -1;
            for (int r = 0; r < w; r++) {
                left[r] = book.time[r];
            }
            tryFrom(0, 0);
            return greatest;
        }

        /**
         * A CHAP leans only on those ahead of it, so what comes of c, when all is read and told,
         * stands as soon as it is told who reads c and those ahead of it.
         */
        private void tryFrom(int c, int sum) {
            if (c >= m) {
                if (sum > greatest) {
                    greatest = sum;
                    Book.copyRow(trial, first, m);
                }
                return;
            }
            if (sum + mostOfRest(c) <= greatest) {
                return;
            }
            for (int r = 0; r < w; r++) {
                int takes = book.readTime(r, c);
                if (left[r] >= takes) {
                    left[r] -= takes;
                    trial[c] = r;
                    tryFrom(c + 1, sum + worthIfReadBy(r, c));
                    left[r] += takes;
                }
            }
            trial[c] = NONE;
            for (int r = 0; r < w; r++) {
                byReading[r * MOST_CHAPS + c] = 0;
                inTheEnd[r * MOST_CHAPS + c] = 0;
            }
            tryFrom(c + 1, sum);
        }

        private int mostOfRest(int c) {
            int worth = 0;
            for (int d = c; d < m; d++) {
                worth += book.worth[d];
            }
            return worth * w;
        }

        private int worthIfReadBy(int r, int c) {
            int read = book.partsRead(r, book.lackAt(c, byReading, r * MOST_CHAPS));
            int worth = 0;
            for (int one = 0; one < w; one++) {
                int from = one * MOST_CHAPS;
                if (one == r) {
                    byReading[from + c] = read;
                    inTheEnd[from + c] = read;
                } else {
                    int lack = book.lackAt(c, inTheEnd, from);
                    byReading[from + c] = 0;
                    inTheEnd[from + c] = Book.ofMillion(book.partsTold(read, r, 4, one), MILLION - lack);
                }
                worth += Book.ofMillion(book.worth[c], inTheEnd[from + c]);
            }
            return worth;
        }
    }

    /** CUT and NET: where to cut the book. */
    private static final class Cuts {
        static final int MOST_STRETCHES = 9;
        static final int MOST_SIDED = 10;
        static final int TOO_MUCH = 1000000;

        /** The last CHAPS by the latest stretch() that could be, and how many. */
        final int[] ends;
        int stretches;
        /** The side by the latest divide() that could be. */
        int side;
        /** The least N for the CHAPS from i on in s STRETCHES, and the end of the first of those. */
        private final int[][] least;
        private final int[][] endOfFirst;

        Cuts() {
            ends = new int[MOST_STRETCHES];
            stretches = 0;
            side = NONE;
            least = new int[MOST_STRETCHES + 1][MOST_CHAPS + 1];
            endOfFirst = new int[MOST_STRETCHES + 1][MOST_CHAPS + 1];
        }

        int stretch(Book book, int k, int pages) {
            for (int s = 0; s <= k; s++) {
                least[s][book.chaps] = s == 0 ? 0 : TOO_MUCH;
            }
            for (int i = book.chaps - 1; i >= 0; i--) {
                chooseEnds(book, k, i, pages);
            }
            if (least[k][0] >= TOO_MUCH) {
                return NONE;
            }
            stretches = k;
            int i = 0;
            for (int s = k; s >= 1; s--) {
                int end = endOfFirst[s][i];
                ends[k - s] = end;
                i = end + 1;
            }
            return least[k][0];
        }

        /** An N goes over a cut when the CHAP that leans stands behind it: it counts there, and once. */
        private void chooseEnds(Book book, int k, int i, int pages) {
            for (int s = 0; s <= k; s++) {
                least[s][i] = TOO_MUCH;
            }
            int over = 0;
            int length = 0;
            for (int end = i; end < book.chaps; end++) {
                length += book.pages[end];
                if (length > pages) {
                    return;
                }
                for (int d = 0; d < i; d++) {
                    over += book.lean[end][d];
                }
                for (int s = 1; s <= k; s++) {
                    int together = over + least[s - 1][end + 1];
                    if (together < least[s][i]) {
                        least[s][i] = together;
                        endOfFirst[s][i] = end;
                    }
                }
            }
        }

        int divide(Book book, Scan scan, int places, int pages) {
            int fewest = TOO_MUCH;
            int found = NONE;
            for (int set = 1; set < 1 << (places - 1); set++) {
                if (sidesFit(book, scan, places, set, pages)) {
                    int over = overSides(book, scan, places, set);
                    if (over < fewest) {
                        fewest = over;
                        found = set;
                    }
                }
            }
            if (found == NONE) {
                return NONE;
            }
            side = found;
            return fewest;
        }

        private static boolean sidesFit(Book book, Scan scan, int places, int set, int pages) {
            int inside = 0;
            int outside = 0;
            for (int i = 0; i < places; i++) {
                int length = book.pages[scan.byteAt(i)];
                if ((set >> i & 1) != 0) {
                    inside += length;
                } else {
                    outside += length;
                }
            }
            return inside <= pages && outside <= pages;
        }

        private static int overSides(Book book, Scan scan, int places, int set) {
            int over = 0;
            for (int i = 0; i < places; i++) {
                int[] leans = book.lean[scan.byteAt(i)];
                for (int j = 0; j < places; j++) {
                    if ((set >> i & 1) != (set >> j & 1)) {
                        over += leans[scan.byteAt(j)];
                    }
                }
            }
            return over;
        }
    }

    /** CHAIN: who tells whom in which order. */
    private static final class Row {
        static final int MOST_PLACES = 7;

        /** The order of the latest search, and of how many. */
        final int[] first;
        int told;
        private final int[] among;
        private final int[] trial;
        private Book book;
        private int places;
        private int greatest;

        Row(Book firstBook) {
            first = new int[MOST_PLACES];
            told = 0;
            among = new int[MOST_PLACES];
            trial = new int[MOST_PLACES];
            book = firstBook;
        }

        int search(Book of, Scan scan, int many) {
            book = of;
            places = many;
            told = many;
            greatest = -1;
            for (int i = 0; i < places; i++) {
                among[i] = scan.byteAt(i);
            }
            trial[0] = among[0];
            tryFrom(1, 1, MILLION, MILLION);
            return greatest;
        }

        /** 'placed' has the places told of those who know, of whom the last KNOWS 'parts'. */
        private void tryFrom(int at, int placed, int parts, int sum) {
            if (at >= places) {
                if (sum > greatest) {
                    greatest = sum;
                    Book.copyRow(trial, first, places);
                }
                return;
            }
            for (int i = 1; i < places; i++) {
                if ((placed >> i & 1) == 0) {
                    int gets = book.partsTold(parts, trial[at - 1], 4, among[i]);
                    if (at > 1) {
                        gets = book.retold(gets);
                    }
                    trial[at] = among[i];
                    tryFrom(at + 1, placed | 1 << i, gets, sum + gets);
                }
            }
        }
    }

    /** Sets that are chosen: ALONE, LEAVE OUT, ASKED. */
    private static final class Choice {
        static final int MOST_QUESTIONS = 10;
        static final int MOST_TIME = 240;
        static final int STRONGLY = 5;

        /** What the latest readAlone() or leaveOut() found. */
        int worth;
        int set;
        /** What the latest askFewest() that found them found. */
        int questions;
        private final int[] worthIn;
        private final int[] setIn;
        private final int[] askedBy;
        private final int[] takes;
        private final int[] needs;
        private Book book;
        private int quarters;

        Choice(Book first) {
            questions = NONE;
            worthIn = new int[MOST_TIME + 1];
            setIn = new int[MOST_TIME + 1];
            askedBy = new int[1 << MOST_QUESTIONS];
            takes = new int[MOST_CHAPS];
            needs = new int[MOST_CHAPS];
            book = first;
        }

        /**
         * For each time the greatest WORTH and its least set, of the CHAPS up to c: of like ones the
         * set without c is the lesser one.
         */
        void readAlone(Book of, int r) {
            int time = Math.min(of.time[r], MOST_TIME);
            for (int t = 0; t <= time; t++) {
                worthIn[t] = 0;
                setIn[t] = 0;
            }
            for (int c = 0; c < of.chaps; c++) {
                int need = of.readTime(r, c);
                for (int t = time; t >= need; t--) {
                    int with = worthIn[t - need] + of.worth[c];
                    if (with > worthIn[t]) {
                        worthIn[t] = with;
                        setIn[t] = setIn[t - need] | 1 << c;
                    }
                }
            }
            worth = worthIn[time];
            set = setIn[time];
        }

        void leaveOut(Book of) {
            book = of;
            quarters = 0;
            int quickest = 0;
            for (int r = 0; r < book.readers; r++) {
                quarters += book.time[r];
                if (book.pace[r] > book.pace[quickest]) {
                    quickest = r;
                }
            }
            worth = 0;
            for (int c = 0; c < book.chaps; c++) {
                takes[c] = book.readTime(quickest, c);
                worth += book.worth[c];
                needs[c] = 0;
                for (int d = 0; d < c; d++) {
                    if (book.lean[c][d] >= STRONGLY) {
                        needs[c] |= 1 << d;
                    }
                }
            }
            // One above all of them, so that the first set that can be is taken.
            worth++;
            set = 0;
            tryLeaving(book.chaps - 1, quarters, 0, 0, 0);
        }

        /** From the last CHAP on and keeping first, so that of like sets the least is met first. */
        private void tryLeaving(int c, int left, int needed, int out, int outWorth) {
            if (outWorth >= worth) {
                return;
            }
            if (c < 0) {
                worth = outWorth;
                set = out;
                return;
            }
            if (takes[c] <= left) {
                tryLeaving(c - 1, left - takes[c], needed | needs[c], out, outWorth);
            }
            if ((needed >> c & 1) == 0) {
                tryLeaving(c - 1, left, needed, out | 1 << c, outWorth + book.worth[c]);
            }
        }

        int askFewest(Scan scan, int many, int chaps, int lacking) {
            if (!readQuestions(scan, many, chaps)) {
                return NOT_AS_TOLD;
            }
            int fewest = MOST_QUESTIONS + 1;
            int found = NONE;
            askedBy[0] = 0;
            for (int chosen = 0; chosen < 1 << many; chosen++) {
                if (chosen != 0) {
                    askedBy[chosen] = askedBy[chosen & chosen - 1] | askedBy[chosen & -chosen];
                }
                if ((lacking & ~askedBy[chosen]) == 0 && Integer.bitCount(chosen) < fewest) {
                    fewest = Integer.bitCount(chosen);
                    found = chosen;
                }
            }
            if (found == NONE) {
                return NONE;
            }
            questions = found;
            return fewest;
        }

        /** Puts each question where it is asked alone. */
        private boolean readQuestions(Scan scan, int many, int chaps) {
            if (many < 1 || many > MOST_QUESTIONS) {
                return false;
            }
            for (int i = 0; i < many; i++) {
                int asks = scan.byteAt(2 * i) << 8 | scan.byteAt(2 * i + 1);
                if (asks >> chaps != 0) {
                    return false;
                }
                askedBy[1 << i] = asks;
            }
            return true;
        }
    }

    /** A SENTENCE, as steps: a ONE that asks puts what holds on a heap of bits, others join its top. */
    private static final class Sentence {
        static final int MOST_ONES = 20;
        static final int MOST_WITHIN = 8;
        /** Each ONE is a step at most, and each 'and' and 'or' between them. */
        static final int MOST_STEPS = 2 * MOST_ONES;

        private final int[] step;
        private final int[] chap;
        private final int[] sign;
        private final int[] number;
        private int steps;
        int ones;

        Sentence() {
            step = new int[MOST_STEPS];
            chap = new int[MOST_STEPS];
            sign = new int[MOST_STEPS];
            number = new int[MOST_STEPS];
            steps = 0;
            ones = 0;
        }

        void clear() {
            steps = 0;
            ones = 0;
        }

        void copyFrom(Sentence other) {
            Book.copyRow(other.step, step, other.steps);
            Book.copyRow(other.chap, chap, other.steps);
            Book.copyRow(other.sign, sign, other.steps);
            Book.copyRow(other.number, number, other.steps);
            steps = other.steps;
            ones = other.ones;
        }

        private void add(int kind, int c, int comparison, int than) {
            if (steps < MOST_STEPS) {
                step[steps] = kind;
                chap[steps] = c;
                sign[steps] = comparison;
                number[steps] = than;
                steps++;
            }
        }

        boolean readFrom(Scan scan, Book book) {
            clear();
            if (!readCond(scan, book, 1)) {
                return false;
            }
            return scan.kind == Scan.END || scan.fail(Scan.CANT_COME);
        }

        /** Joins by 'and' at once, by 'or' when the ONES joined by 'and' behind it are over. */
        private boolean readCond(Scan scan, Book book, int within) {
            boolean and = false;
            boolean or = false;
            for (int i = 0; i <= MOST_ONES; i++) {
                if (!readOne(scan, book, within)) {
                    return false;
                }
                if (and) {
                    add(Scan.AND, 0, 0, 0);
                }
                and = scan.kind == Scan.AND;
                if (!and && or) {
                    add(Scan.OR, 0, 0, 0);
                }
                if (!and && scan.kind != Scan.OR) {
                    return true;
                }
                or = or || !and;
                scan.next();
            }
            return false;
        }

        private boolean readOne(Scan scan, Book book, int within) {
            int kind = scan.kind;
            if (kind != '(' && (kind < Scan.NOT || kind > Scan.COUNT)) {
                return scan.fail(Scan.CANT_COME);
            }
            if (ones >= MOST_ONES || within > MOST_WITHIN) {
                return scan.fail(Scan.TOO_MANY);
            }
            ones++;
            scan.next();
            if (kind == '(') {
                return readCond(scan, book, within + 1) && scan.take(')');
            }
            if (kind == Scan.NOT) {
                if (!readOne(scan, book, within + 1)) {
                    return false;
                }
                add(Scan.NOT, 0, 0, 0);
                return true;
            }
            return readAsking(scan, book, kind);
        }

        private boolean readAsking(Scan scan, Book book, int kind) {
            int c = 0;
            if (kind <= Scan.KNOWS) {
                if (!scan.takeChap(book)) {
                    return false;
                }
                c = scan.taken;
            }
            if (kind < Scan.KNOWS) {
                add(kind, c, 0, 0);
                return true;
            }
            int comparison = scan.kind;
            if (!Scan.isComparison(comparison)) {
                return scan.fail(Scan.CANT_COME);
            }
            scan.next();
            if (!scan.takeNumber(0, 999)) {
                return false;
            }
            add(kind, c, comparison, scan.taken);
            return true;
        }

        boolean holds(Minds minds, int r) {
            // Eight within one another leave fewer than twenty bits waiting.
            int heap = 0;
            for (int i = 0; i < steps; i++) {
                int top = heap & 1;
                switch (step[i]) {
                    case Scan.NOT:
                        heap ^= 1;
                        break;
                    case Scan.AND:
                        heap = heap >> 1 & (top | ~1);
                        break;
                    case Scan.OR:
                        heap = heap >> 1 | top;
                        break;
                    default:
                        heap = heap << 1 | (isSo(minds, r, i) ? 1 : 0);
                        break;
                }
            }
            return (heap & 1) != 0;
        }

        private boolean isSo(Minds minds, int r, int i) {
            switch (step[i]) {
                case Scan.READ:
                    return (minds.hasRead[r] >> chap[i] & 1) != 0;
                case Scan.TOLD:
                    return (minds.wasTold[r] >> chap[i] & 1) != 0;
                case Scan.KNOWS:
                    return compares(minds.parts[r * MOST_CHAPS + chap[i]] / 10000, i);
                case Scan.TOTAL:
                    return compares(minds.inAll(r), i);
                case Scan.LEFT:
                    return compares(minds.left[r], i);
                default:
                    return compares(Integer.bitCount(minds.hasRead[r]), i);
            }
        }

        private boolean compares(int found, int i) {
            switch (sign[i]) {
                case '<':
                    return found < number[i];
                case '>':
                    return found > number[i];
                default:
                    return found == number[i];
            }
        }
    }
}
