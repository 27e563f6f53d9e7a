import java.util.NoSuchElementException;

/** A port whose accounts are tattooed on its people: see the document for every word used here. */
public final class SkinLedger {
    public static final int NONE = -1;

    private static final int MOST_TAPE = 640;
    private static final int MOST_READ = 600;
    private static final int MOST_BODIES = 9;
    private static final int MOST_KINDS = 6;
    private static final int MOST_DEALS = 60;
    private static final int MOST_LINES = 40;
    private static final int MOST_UNDONE = 8;
    private static final int MOST_IN_RING = 5;
    private static final int MOST_PACKED = 6;
    private static final int MOST_LOST = 4;
    private static final int MOST_YEAR = 99;
    private static final int MOST_SUM = 99;
    private static final int SETS = 512;

    private static final int PLAIN = 0;
    private static final int DOUBLED = 1;
    private static final int HALVED = 2;
    private static final int FALSE = 3;
    private static final int JOINT = 4;

    private static final int OPEN = 0;
    private static final int STRUCK = 1;
    private static final int CLOSED = 2;

    private static final int CREDIT = 0;
    private static final int DEBT = 1;

    private static final int FAULT_TOKEN = 1;
    private static final int FAULT_NUMBER = 2;
    private static final int FAULT_NAME = 3;
    private static final int FAULT_TOO_MANY = 4;

    private static final int WRONG_BODIES = 1;
    private static final int WRONG_CREDIT = 2;
    private static final int WRONG_DEBT = 3;
    private static final int WRONG_DEAL = 4;
    private static final int WRONG_LINE = 5;
    private static final int WRONG_MARK = 6;
    private static final int WRONG_FULL = 7;
    private static final int WRONG_RING = 8;
    private static final int WRONG_YEAR = 9;

    private final Tape tape = new Tape();
    private final Port port = new Port();
    private final Port draftPort = new Port();
    private final Book book = new Book();
    private final Book draftBook = new Book();
    private final Ledger now = new Ledger(port);
    private final Ledger trial = new Ledger(port);
    private final History history = new History(port);
    private final Image[] images = {new Image(), new Image()};
    private final Rings rings = new Rings();
    private final Packer packer = new Packer();
    private final Fitter fitter = new Fitter();
    private final Settler settler = new Settler();
    private final Text text = new Text();
    private final int[] toldRing = new int[MOST_IN_RING];
    private int toldRingLength;
    private final int[] judgement = new int[5];
    private boolean isJudged;
    private int latestFault;
    private int portsRead;

    public SkinLedger() {
    }

    // ---- the tape, the PORT and the BOOK

    public int feed(int a, int b, int c, int d, int e) {
        if (tape.length + 20 > MOST_TAPE) {
            return NONE;
        }
        tape.add(a);
        tape.add(b);
        tape.add(c);
        tape.add(d);
        tape.add(e);
        return tape.length;
    }

    public boolean end(int n) {
        if (n < 0 || n > tape.length) {
            return false;
        }
        tape.length = n;
        return true;
    }

    public int port() {
        boolean isRead = draftPort.readFrom(tape);
        latestFault = tape.fault;
        tape.length = 0;
        if (!isRead) {
            return -1 - tape.place;
        }
        portsRead++;
        draftPort.serial = portsRead;
        port.copyFrom(draftPort);
        book.lines = 0;
        now.begin();
        history.forget();
        return port.lines;
    }

    public int fault() {
        return latestFault;
    }

    public int book() {
        boolean isRead = draftBook.readFrom(tape, port);
        latestFault = tape.fault;
        tape.length = 0;
        if (!isRead) {
            return -1 - tape.place;
        }
        book.copyFrom(draftBook);
        return book.lines;
    }

    public int count(int what) {
        switch (what) {
            case 0: return port.bodies;
            case 1: return port.kinds;
            case 2: return port.line;
            case 3: return port.dot;
            case 4: return now.deals;
            case 5: return now.openDeals();
            case 6: return now.year;
            case 7: return book.lines;
            case 8: return tape.length;
            default: return NONE;
        }
    }

    // ---- what is so

    public int body(int b, int what) throws NoSuchElementException {
        if (!port.hasBody(b)) {
            throw new NoSuchElementException();
        }
        switch (what) {
            case 0: return port.room[b];
            case 1: return port.kin[b];
            case 2: return now.lives(b) ? 1 : 0;
            case 3: return now.left[b];
            case 4: return now.netOf(b);
            case 5: return now.marksOn(b, MOST_YEAR);
            case 6: return now.scratched[b];
            default: throw new NoSuchElementException();
        }
    }

    public int kind(int k, int what) throws NoSuchElementException {
        if (!port.hasKind(k) || what < 0 || what > 1) {
            throw new NoSuchElementException();
        }
        return what == 0 ? port.size[k] : port.sort[k];
    }

    public int deal(int d, int what) throws NoSuchElementException {
        if (!now.hasDeal(d)) {
            throw new NoSuchElementException();
        }
        switch (what) {
            case 0: return now.lender[d];
            case 1: return now.debtor[d];
            case 2: return now.sum[d];
            case 3: return now.kind[d];
            case 4: return now.written[d];
            case 5: return now.state[d];
            case 6: return now.bearer(d, CREDIT);
            case 7: return now.bearer(d, DEBT);
            case 8: return now.isKnown(d) ? 1 : 0;
            case 9: return now.valueOf(d);
            default: throw new NoSuchElementException();
        }
    }

    public int read(int d, int side) {
        if (!now.hasDeal(d) || !isSide(side) || now.bearer(d, side) == NONE) {
            return NONE;
        }
        return now.isReadable(d, side) ? 1 : 0;
    }

    public int mark(int b, int k) {
        if (!port.hasBody(b)) {
            return NONE;
        }
        if (k == NONE) {
            return now.marksOn(b, MOST_YEAR);
        }
        int met = 0;
        for (int d = 0; d < now.deals; d++) {
            for (int side = CREDIT; side <= DEBT; side++) {
                if (now.bearer(d, side) == b) {
                    if (met == k) {
                        return 2 * d + side;
                    }
                    met++;
                }
            }
        }
        return NONE;
    }

    public int aged(int b, int year) {
        return port.hasBody(b) && isYear(year) ? now.marksOn(b, year) : NONE;
    }

    public int owes(int b, int what) {
        if (!port.hasBody(b) || what < 0 || what > 1) {
            return NONE;
        }
        int bits = 0;
        for (int d = 0; d < now.deals; d++) {
            if (now.isOpen(d)) {
                int self = what == 0 ? now.lender[d] : now.debtor[d];
                int other = what == 0 ? now.debtor[d] : now.lender[d];
                bits |= self == b ? 1 << other : 0;
            }
        }
        return bits;
    }

    public int chain(int a, int b) {
        if (!port.hasBody(a) || !port.hasBody(b)) {
            return NONE;
        }
        int reached = 1 << a;
        for (int steps = 0; steps < MOST_BODIES; steps++) {
            if (isIn(b, reached)) {
                return steps;
            }
            reached |= now.lendersTo(reached);
        }
        return NONE;
    }

    public int fullest(int k) {
        int taken = 0;
        int best = NONE;
        for (int n = 0; n <= k && n < MOST_BODIES; n++) {
            best = now.leastLeft(taken);
            taken |= best == NONE ? 0 : 1 << best;
        }
        return k < MOST_BODIES ? best : NONE;
    }

    public int trade(int year, int what) {
        if (!isYear(year) || what < 0 || what > 3) {
            return NONE;
        }
        int sum = 0;
        for (int d = 0; d < now.deals; d++) {
            if (now.written[d] == year && (what == 0 || now.state[d] == what - 1)) {
                sum += now.valueOf(d);
            }
        }
        return sum;
    }

    public int settled() {
        return settler.payments(now);
    }

    public int between(int lender, int debtor, int k) {
        if (!port.hasBody(lender) || !port.hasBody(debtor)) {
            return NONE;
        }
        int met = 0;
        for (int d = 0; d < now.deals; d++) {
            if (now.isOpen(d) && now.lender[d] == lender && now.debtor[d] == debtor) {
                if (met == k) {
                    return d;
                }
                met++;
            }
        }
        return k == NONE ? met : NONE;
    }

    public int greatest(int k) {
        if (k < 0) {
            return NONE;
        }
        for (int d = 0; d < now.deals; d++) {
            if (now.isOpen(d) && now.openAhead(d) == k) {
                return d;
            }
        }
        return NONE;
    }

    // ---- the texts

    public int skin(int b) {
        if (!port.hasBody(b)) {
            return NONE;
        }
        text.length = 0;
        for (int d = 0; d < now.deals; d++) {
            for (int side = CREDIT; side <= DEBT; side++) {
                if (now.bearer(d, side) == b) {
                    addMark(d, side);
                }
            }
        }
        return text.length;
    }

    private void addMark(int d, int side) {
        int other = side == CREDIT ? now.debtor[d] : now.lender[d];
        text.add(side == CREDIT ? '+' : '-');
        text.add(' ');
        text.addName(port.bodyName[other]);
        text.add(' ');
        if (now.isScarred(d, side)) {
            text.add('?');
        } else {
            text.addNumber(now.sum[d]);
        }
        text.add(' ');
        text.addName(port.kindName[now.kind[d]]);
        if (now.state[d] == STRUCK) {
            text.add('x');
        }
        if (now.state[d] == CLOSED) {
            text.add('o');
        }
        text.add(';');
    }

    public int byteAt(int i) {
        return text.at(i);
    }

    // ---- the ACTS

    public int write(int lender, int debtor, int sum, int kind) {
        if (!port.hasDealers(lender, debtor, kind) || sum < 1 || sum > MOST_SUM) {
            return NONE;
        }
        history.note(now);
        int wrong = now.tryWrite(lender, debtor, sum, kind);
        if (wrong != 0) {
            return -10 - wrong;
        }
        history.keepNoted();
        return now.deals - 1;
    }

    public int strike(int d) {
        history.note(now);
        int wrong = now.tryStrike(d);
        if (wrong == 0) {
            history.keepNoted();
        }
        return wrong;
    }

    public int scar(int d, int side) {
        if (!isSide(side)) {
            return NONE;
        }
        history.note(now);
        int wrong = now.tryScar(d, side);
        if (wrong == 0) {
            history.keepNoted();
        }
        return wrong;
    }

    public int cut() {
        history.note(now);
        if (now.tryCut(rings) != 0) {
            return NONE;
        }
        history.keepNoted();
        return rings.least;
    }

    public int dies(int b, int heir) {
        if (!port.hasBody(b) || !port.hasBody(heir)) {
            return NONE;
        }
        history.note(now);
        int inherited = now.openFor(b, heir);
        int wrong = now.tryBury(b, heir);
        if (wrong != 0) {
            return -10 - wrong;
        }
        history.keepNoted();
        return inherited;
    }

    public int year() {
        history.note(now);
        if (now.tryYear() != 0) {
            return NONE;
        }
        history.keepNoted();
        return now.year;
    }

    public int undo() {
        return history.takeBack(now);
    }

    // ---- RINGS

    public int ring() {
        if (!rings.findBest(now)) {
            return NONE;
        }
        toldRingLength = rings.length;
        for (int i = 0; i < MOST_IN_RING; i++) {
            toldRing[i] = rings.best[i];
        }
        return rings.frees;
    }

    public int ringAt(int i) {
        return i >= 0 && i < toldRingLength && i < MOST_IN_RING ? toldRing[i] : NONE;
    }

    public int ringOf(int d) {
        return now.hasDeal(d) && rings.findBestWith(now, d) ? rings.frees : NONE;
    }

    public int can(int lender, int kind) {
        if (!port.hasBody(lender) || !port.hasKind(kind)) {
            return NONE;
        }
        int bits = 0;
        for (int b = 0; b < port.bodies; b++) {
            if (now.wrongToWrite(lender, b, kind) == 0) {
                bits |= 1 << b;
            }
        }
        return bits;
    }

    public int ringsFor(int lender, int debtor, int kind) {
        if (!port.hasDealers(lender, debtor, kind)) {
            return NONE;
        }
        trial.copyFrom(now);
        // each CUT closes a DEAL, so there are no more CUTS than DEALS
        for (int cuts = 0; cuts <= MOST_DEALS; cuts++) {
            int wrong = trial.wrongToWrite(lender, debtor, kind);
            if (wrong == 0) {
                return cuts;
            }
            if (wrong == WRONG_BODIES || trial.tryCut(rings) != 0) {
                return NONE;
            }
        }
        return NONE;
    }

    // ---- the BOOK judged, and how long skin lasts

    public int judge(int lives) {
        if (lives < 0 || lives > 1) {
            return -2;
        }
        Ledger judged = lives == 1 ? now : trial;
        if (lives == 1) {
            history.note(now);
        } else {
            trial.copyFrom(now);
        }
        int wrong = 0;
        int done = 0;
        while (done < book.lines && wrong == 0) {
            wrong = book.tryLine(done, judged, rings);
            done += wrong == 0 ? 1 : 0;
        }
        if (lives == 1 && done > 0) {
            history.keepNoted();
        }
        isJudged = true;
        judgement[0] = wrong;
        judgement[1] = done;
        judgement[2] = judged.openDeals();
        judgement[3] = judged.leftOfLiving();
        judgement[4] = judged.year;
        return wrong == 0 ? NONE : done;
    }

    public int judged(int what) {
        return isJudged && what >= 0 && what < judgement.length ? judgement[what] : NONE;
    }

    public int lasts(int law, int seed) {
        if (law < 0 || law > 2 || port.bodies == 0 || port.kinds == 0) {
            return NONE;
        }
        trial.copyFrom(now);
        int first = trial.deals;
        int refused = 0;
        int x = seed;
        for (int draws = 0; draws < 200 && refused < 10; draws++) {
            x = nextSeed(x);
            int lender = drawn(x, port.bodies);
            x = nextSeed(x);
            int debtor = drawn(x, port.bodies);
            x = nextSeed(x);
            int kind = drawn(x, port.kinds);
            x = nextSeed(x);
            int sum = drawn(x, MOST_SUM) + 1;
            if (law == 1) {
                trial.tryStrike(trial.latestOpen(first));
            }
            int wrong = trial.tryWrite(lender, debtor, sum, kind);
            if (wrong == 0 && law == 2) {
                trial.tryCut(rings);
            }
            refused += wrong > WRONG_BODIES ? 1 : 0;
        }
        return trial.deals - first;
    }

    private static int nextSeed(int x) {
        return x * 1103515245 + 12345;
    }

    private static int drawn(int x, int n) {
        return n < 1 ? 0 : (x >>> 8) % n;
    }

    // ---- new DEALS PACKED

    public int pack() {
        boolean isTold = packer.take(tape, port);
        tape.length = 0;
        if (!isTold) {
            return NONE;
        }
        int most = packer.search(now, NONE, 0);
        packer.keepTold();
        return most;
    }

    public int packed(int i) {
        return packer.told(i);
    }

    public int price(int b, int n) {
        if (!port.hasBody(b) || n < 1 || n > 99 || !packer.isPackedIn(port)) {
            return NONE;
        }
        return packer.search(now, b, n) - packer.search(now, NONE, 0);
    }

    // ---- what is LOST, what is OWED

    public int lost(int k) {
        int met = 0;
        for (int d = 0; d < now.deals; d++) {
            if (now.isLost(d)) {
                if (met == k) {
                    return d;
                }
                met++;
            }
        }
        return k == NONE ? met : NONE;
    }

    public int fits(int most) {
        boolean isTold = most >= 1 && most <= 20 && fitter.take(tape, now);
        tape.length = 0;
        return isTold ? fitter.search(most) : NONE;
    }

    public int fit(int i, int what) {
        return fitter.told(i, what);
    }

    public int owed(int b, int found, int what) {
        if (!port.hasBody(b) || found < 0 || found >= 1 << port.bodies || what < 0 || what > 1) {
            return NONE;
        }
        return what == 0 ? now.owedSurely(b, found) : now.owedAtMost(b, found);
    }

    public int proof(int b) {
        if (!port.hasBody(b)) {
            return NONE;
        }
        int all = (1 << port.bodies) - 1;
        int due = now.owedSurely(b, all);
        int best = all;
        for (int found = 0; found < all; found++) {
            if (Integer.bitCount(found) < Integer.bitCount(best) && now.owedSurely(b, found) == due) {
                best = found;
            }
        }
        return best;
    }

    public int witness(int d) {
        if (!now.hasDeal(d)) {
            return NONE;
        }
        int credit = now.unscarredBearer(d, CREDIT);
        int debt = now.unscarredBearer(d, DEBT);
        if (port.sort[now.kind[d]] == JOINT) {
            return credit == NONE || debt == NONE ? NONE : 1 << credit | 1 << debt;
        }
        if (credit == NONE || debt == NONE) {
            int only = credit == NONE ? debt : credit;
            return only == NONE ? NONE : 1 << only;
        }
        return 1 << Math.min(credit, debt);
    }

    // ---- images

    public boolean image(int k) {
        if (k < 0 || k >= images.length) {
            return false;
        }
        images[k].keep(port, now, book);
        return true;
    }

    public boolean restore(int k) {
        if (k < 0 || k >= images.length || !images[k].isKept) {
            return false;
        }
        images[k].bringBack(port, now, book);
        history.forget();
        return true;
    }

    // ---- small tests

    private static boolean isSide(int side) {
        return side == CREDIT || side == DEBT;
    }

    private static boolean isYear(int year) {
        return year >= 0 && year <= MOST_YEAR;
    }

    private static boolean isIn(int b, int bits) {
        return (bits >> b & 1) == 1;
    }

    /** The bytes that were fed, and the TOKEN of them that is looked at. */
    private static final class Tape {
        private static final int END = 0;
        private static final int WORD = 1;
        private static final int NUMBER = 2;
        private static final int STOP = 3;
        private static final int OTHER = 4;

        // a word's letters as the bytes of one number, so that words are compared at once
        static final long WORD_BODY = 0x626f6479L; // body
        static final long WORD_KIN = 0x6b696eL; // kin
        static final long WORD_KIND = 0x6b696e64L; // kind
        static final long WORD_DOUBLED = 0x646f75626c6564L; // doubled
        static final long WORD_HALVED = 0x68616c766564L; // halved
        static final long WORD_FALSE = 0x66616c7365L; // false
        static final long WORD_JOINT = 0x6a6f696e74L; // joint
        static final long WORD_LINE = 0x6c696e65L; // line
        static final long WORD_DOT = 0x646f74L; // dot
        static final long WORD_DEAL = 0x6465616cL; // deal
        static final long WORD_STRIKE = 0x737472696b65L; // strike
        static final long WORD_SCAR = 0x73636172L; // scar
        static final long WORD_CREDIT = 0x637265646974L; // credit
        static final long WORD_DEBT = 0x64656274L; // debt
        static final long WORD_RING = 0x72696e67L; // ring
        static final long WORD_DIES = 0x64696573L; // dies
        static final long WORD_YEAR = 0x79656172L; // year
        private static final long[] WORDS = {
            WORD_BODY, WORD_KIN, WORD_KIND, WORD_DOUBLED, WORD_HALVED, WORD_FALSE, WORD_JOINT, WORD_LINE,
            WORD_DOT, WORD_DEAL, WORD_STRIKE, WORD_SCAR, WORD_CREDIT, WORD_DEBT, WORD_RING, WORD_DIES,
            WORD_YEAR
        };

        final int[] bytes = new int[MOST_TAPE];
        int length;
        int fault;
        int place;
        long word;
        int number;
        int found;
        private int at;
        private int start;
        private int sort;

        void add(int number) {
            for (int shift = 24; shift >= 0; shift -= 8) {
                if (length < MOST_TAPE) {
                    bytes[length] = number >> shift & 255;
                    length++;
                }
            }
        }

        int byteOr(int i, int otherwise) {
            return i >= 0 && i < length && i < MOST_TAPE ? bytes[i] : otherwise;
        }

        void begin() {
            at = 0;
            fault = 0;
            place = 0;
        }

        boolean refuse(int kind) {
            fault = kind;
            place = start;
            return false;
        }

        void nextToken() {
            while (at < length && isBlank(byteOr(at, 0))) {
                at++;
            }
            start = at;
            if (at >= length || at >= MOST_READ) {
                start = Math.min(length, MOST_READ);
                sort = END;
                return;
            }
            int c = byteOr(at, 0);
            if (isLetter(c) || isDigit(c)) {
                readRun();
            } else {
                sort = c == ';' ? STOP : OTHER;
                at++;
            }
        }

        private void readRun() {
            int letters = 0;
            int digits = 0;
            word = 0;
            number = 0;
            while (at < length && (isLetter(byteOr(at, 0)) || isDigit(byteOr(at, 0)))) {
                int c = byteOr(at, 0);
                letters += isLetter(c) ? 1 : 0;
                digits += isDigit(c) ? 1 : 0;
                word = word << 8 | c;
                number = number * 10 + (c - '0');
                at++;
            }
            sort = OTHER;
            if (digits == 0 && letters <= 7) {
                sort = WORD;
            }
            if (letters == 0 && digits <= 2) {
                sort = NUMBER;
            }
        }

        private static boolean isBlank(int c) {
            return c == 32 || c == 10;
        }

        private static boolean isLetter(int c) {
            return c >= 'a' && c <= 'z';
        }

        private static boolean isDigit(int c) {
            return c >= '0' && c <= '9';
        }

        boolean isEnd() {
            return sort == END;
        }

        /** A text is refused for its length only where no FAULT is ahead of that place. */
        boolean isAllRead() {
            return length <= MOST_READ || refuse(FAULT_TOKEN);
        }

        boolean isStop() {
            return sort == STOP || refuse(FAULT_TOKEN);
        }

        boolean says(long told) {
            return sort == WORD && word == told;
        }

        private boolean isName() {
            for (int i = 0; i < WORDS.length; i++) {
                if (word == WORDS[i]) {
                    return false;
                }
            }
            return sort == WORD;
        }

        boolean takeNewName(Port port) {
            nextToken();
            if (!isName()) {
                return refuse(FAULT_TOKEN);
            }
            boolean isNew = port.bodyNamed(word) == NONE && port.kindNamed(word) == NONE;
            return isNew || refuse(FAULT_NAME);
        }

        boolean takeBody(Port port) {
            nextToken();
            if (!isName()) {
                return refuse(FAULT_TOKEN);
            }
            found = port.bodyNamed(word);
            return found != NONE || refuse(FAULT_NAME);
        }

        boolean takeKind(Port port) {
            nextToken();
            if (!isName()) {
                return refuse(FAULT_TOKEN);
            }
            found = port.kindNamed(word);
            return found != NONE || refuse(FAULT_NAME);
        }

        boolean takeNumber(int least, int most) {
            nextToken();
            if (sort != NUMBER) {
                return refuse(FAULT_TOKEN);
            }
            return number >= least && number <= most || refuse(FAULT_NUMBER);
        }

        boolean takeStop() {
            nextToken();
            return isStop();
        }
    }

    /** The BODIES and KINDS as the PORT's text tells them. */
    private static final class Port {
        final long[] bodyName = new long[MOST_BODIES];
        final int[] room = new int[MOST_BODIES];
        final int[] kin = new int[MOST_BODIES];
        final long[] kindName = new long[MOST_KINDS];
        final int[] size = new int[MOST_KINDS];
        final int[] sort = new int[MOST_KINDS];
        int bodies;
        int kinds;
        int line = 1;
        int dot;
        int lines;
        /** Which reading of a text made this PORT: a text read anew is another PORT. */
        int serial;
        private boolean isLineTold;
        private boolean isDotTold;

        private void forget() {
            bodies = 0;
            kinds = 0;
            line = 1;
            dot = 0;
            lines = 0;
            isLineTold = false;
            isDotTold = false;
        }

        void copyFrom(Port other) {
            System.arraycopy(other.bodyName, 0, bodyName, 0, MOST_BODIES);
            System.arraycopy(other.room, 0, room, 0, MOST_BODIES);
            System.arraycopy(other.kin, 0, kin, 0, MOST_BODIES);
            System.arraycopy(other.kindName, 0, kindName, 0, MOST_KINDS);
            System.arraycopy(other.size, 0, size, 0, MOST_KINDS);
            System.arraycopy(other.sort, 0, sort, 0, MOST_KINDS);
            bodies = other.bodies;
            kinds = other.kinds;
            line = other.line;
            dot = other.dot;
            lines = other.lines;
            serial = other.serial;
        }

        boolean hasBody(int b) {
            return b >= 0 && b < bodies && b < MOST_BODIES;
        }

        boolean hasKind(int k) {
            return k >= 0 && k < kinds && k < MOST_KINDS;
        }

        boolean hasDealers(int lender, int debtor, int kind) {
            return hasBody(lender) && hasBody(debtor) && hasKind(kind);
        }

        int bodyNamed(long name) {
            for (int b = 0; b < bodies; b++) {
                if (bodyName[b] == name) {
                    return b;
                }
            }
            return NONE;
        }

        int kindNamed(long name) {
            for (int k = 0; k < kinds; k++) {
                if (kindName[k] == name) {
                    return k;
                }
            }
            return NONE;
        }

        int valueOf(int kind, int sum) {
            switch (sort[kind]) {
                case DOUBLED: return 2 * sum;
                case HALVED: return sum / 2;
                case FALSE: return 0;
                default: return sum;
            }
        }

        int dotOn(int kind) {
            return Math.min(dot, size[kind]);
        }

        boolean isForRings(int kind) {
            return sort[kind] == PLAIN || sort[kind] == JOINT;
        }

        boolean readFrom(Tape tape) {
            forget();
            tape.begin();
            for (int n = 0; n <= MOST_READ; n++) {
                tape.nextToken();
                if (tape.isEnd()) {
                    return tape.isAllRead();
                }
                if (!readLine(tape)) {
                    return false;
                }
                lines++;
            }
            return false;
        }

        private boolean readLine(Tape tape) {
            if (tape.says(Tape.WORD_BODY)) {
                return readBody(tape);
            }
            if (tape.says(Tape.WORD_KIND)) {
                return readKind(tape);
            }
            if (tape.says(Tape.WORD_LINE)) {
                return readLineRoom(tape);
            }
            return tape.says(Tape.WORD_DOT) ? readDotRoom(tape) : tape.refuse(FAULT_TOKEN);
        }

        private boolean readBody(Tape tape) {
            if (bodies >= MOST_BODIES) {
                return tape.refuse(FAULT_TOO_MANY);
            }
            if (!tape.takeNewName(this)) {
                return false;
            }
            bodyName[bodies] = tape.word;
            if (!tape.takeNumber(1, 99)) {
                return false;
            }
            room[bodies] = tape.number;
            kin[bodies] = NONE;
            tape.nextToken();
            if (tape.says(Tape.WORD_KIN)) {
                if (!tape.takeBody(this)) {
                    return false;
                }
                kin[bodies] = tape.found;
                tape.nextToken();
            }
            bodies++;
            return tape.isStop();
        }

        private boolean readKind(Tape tape) {
            if (kinds >= MOST_KINDS) {
                return tape.refuse(FAULT_TOO_MANY);
            }
            if (!tape.takeNewName(this)) {
                return false;
            }
            kindName[kinds] = tape.word;
            if (!tape.takeNumber(1, 9)) {
                return false;
            }
            size[kinds] = tape.number;
            tape.nextToken();
            sort[kinds] = sortTold(tape);
            if (sort[kinds] != PLAIN) {
                tape.nextToken();
            }
            kinds++;
            return tape.isStop();
        }

        private static int sortTold(Tape tape) {
            if (tape.says(Tape.WORD_DOUBLED)) {
                return DOUBLED;
            }
            if (tape.says(Tape.WORD_HALVED)) {
                return HALVED;
            }
            if (tape.says(Tape.WORD_FALSE)) {
                return FALSE;
            }
            return tape.says(Tape.WORD_JOINT) ? JOINT : PLAIN;
        }

        private boolean readLineRoom(Tape tape) {
            if (isLineTold) {
                return tape.refuse(FAULT_NAME);
            }
            if (!tape.takeNumber(0, 9)) {
                return false;
            }
            isLineTold = true;
            line = tape.number;
            return tape.takeStop();
        }

        private boolean readDotRoom(Tape tape) {
            if (isDotTold) {
                return tape.refuse(FAULT_NAME);
            }
            if (!tape.takeNumber(0, 9)) {
                return false;
            }
            isDotTold = true;
            dot = tape.number;
            return tape.takeStop();
        }
    }

    /** The LINES of a BOOK: which ACT each is, and its numbers. */
    private static final class Book {
        private static final int ACT_DEAL = 0;
        private static final int ACT_STRIKE = 1;
        private static final int ACT_SCAR = 2;
        private static final int ACT_RING = 3;
        private static final int ACT_DIES = 4;
        private static final int ACT_YEAR = 5;

        int lines;
        private final int[] act = new int[MOST_LINES];
        private final int[] first = new int[MOST_LINES];
        private final int[] second = new int[MOST_LINES];
        private final int[] sum = new int[MOST_LINES];
        private final int[] kind = new int[MOST_LINES];

        void copyFrom(Book other) {
            System.arraycopy(other.act, 0, act, 0, MOST_LINES);
            System.arraycopy(other.first, 0, first, 0, MOST_LINES);
            System.arraycopy(other.second, 0, second, 0, MOST_LINES);
            System.arraycopy(other.sum, 0, sum, 0, MOST_LINES);
            System.arraycopy(other.kind, 0, kind, 0, MOST_LINES);
            lines = other.lines;
        }

        boolean readFrom(Tape tape, Port port) {
            lines = 0;
            tape.begin();
            for (int n = 0; n <= MOST_READ; n++) {
                tape.nextToken();
                if (tape.isEnd()) {
                    return tape.isAllRead();
                }
                int told = actTold(tape);
                if (told == NONE) {
                    return tape.refuse(FAULT_TOKEN);
                }
                if (lines >= MOST_LINES) {
                    return tape.refuse(FAULT_TOO_MANY);
                }
                act[lines] = told;
                if (!readRest(tape, port, told) || !tape.takeStop()) {
                    return false;
                }
                lines++;
            }
            return false;
        }

        private static int actTold(Tape tape) {
            if (tape.says(Tape.WORD_DEAL)) {
                return ACT_DEAL;
            }
            if (tape.says(Tape.WORD_STRIKE)) {
                return ACT_STRIKE;
            }
            if (tape.says(Tape.WORD_SCAR)) {
                return ACT_SCAR;
            }
            if (tape.says(Tape.WORD_RING)) {
                return ACT_RING;
            }
            if (tape.says(Tape.WORD_DIES)) {
                return ACT_DIES;
            }
            return tape.says(Tape.WORD_YEAR) ? ACT_YEAR : NONE;
        }

        private boolean readRest(Tape tape, Port port, int told) {
            switch (told) {
                case ACT_DEAL: return readTwoBodies(tape, port) && readSumAndKind(tape, port);
                case ACT_STRIKE: return readDeal(tape);
                case ACT_SCAR: return readDeal(tape) && readSide(tape);
                case ACT_DIES: return readTwoBodies(tape, port);
                default: return true;
            }
        }

        private boolean readTwoBodies(Tape tape, Port port) {
            if (!tape.takeBody(port)) {
                return false;
            }
            first[lines] = tape.found;
            if (!tape.takeBody(port)) {
                return false;
            }
            second[lines] = tape.found;
            return true;
        }

        private boolean readSumAndKind(Tape tape, Port port) {
            if (!tape.takeNumber(1, MOST_SUM)) {
                return false;
            }
            sum[lines] = tape.number;
            if (!tape.takeKind(port)) {
                return false;
            }
            kind[lines] = tape.found;
            return true;
        }

        private boolean readDeal(Tape tape) {
            if (!tape.takeNumber(0, MOST_DEALS - 1)) {
                return false;
            }
            first[lines] = tape.number;
            return true;
        }

        private boolean readSide(Tape tape) {
            tape.nextToken();
            if (!tape.says(Tape.WORD_CREDIT) && !tape.says(Tape.WORD_DEBT)) {
                return tape.refuse(FAULT_TOKEN);
            }
            second[lines] = tape.says(Tape.WORD_CREDIT) ? CREDIT : DEBT;
            return true;
        }

        int tryLine(int i, Ledger ledger, Rings rings) {
            if (i < 0 || i >= MOST_LINES) {
                return 0;
            }
            switch (act[i]) {
                case ACT_DEAL: return ledger.tryWrite(first[i], second[i], sum[i], kind[i]);
                case ACT_STRIKE: return ledger.tryStrike(first[i]);
                case ACT_SCAR: return ledger.tryScar(first[i], second[i]);
                case ACT_RING: return ledger.tryCut(rings);
                case ACT_DIES: return ledger.tryBury(first[i], second[i]);
                default: return ledger.tryYear();
            }
        }
    }

    /** The DEALS, what is LEFT on the BODIES, who is dead, and the YEAR. */
    private static final class Ledger {
        final int[] lender = new int[MOST_DEALS];
        final int[] debtor = new int[MOST_DEALS];
        final int[] sum = new int[MOST_DEALS];
        final int[] kind = new int[MOST_DEALS];
        final int[] written = new int[MOST_DEALS];
        final int[] state = new int[MOST_DEALS];
        final int[] left = new int[MOST_BODIES];
        final int[] scratched = new int[MOST_BODIES];
        final Port port;
        int deals;
        int year;
        private final int[] creditOn = new int[MOST_DEALS];
        private final int[] debtOn = new int[MOST_DEALS];
        private final int[] scars = new int[MOST_DEALS];
        private int dead;

        Ledger(Port port) {
            this.port = port;
        }

        void begin() {
            deals = 0;
            year = 0;
            dead = 0;
            for (int b = 0; b < MOST_BODIES; b++) {
                left[b] = port.room[b];
                scratched[b] = 0;
            }
        }

        void copyFrom(Ledger other) {
            int n = other.deals;
            if (n < 0 || n > MOST_DEALS) {
                return;
            }
            System.arraycopy(other.lender, 0, lender, 0, n);
            System.arraycopy(other.debtor, 0, debtor, 0, n);
            System.arraycopy(other.sum, 0, sum, 0, n);
            System.arraycopy(other.kind, 0, kind, 0, n);
            System.arraycopy(other.written, 0, written, 0, n);
            System.arraycopy(other.state, 0, state, 0, n);
            System.arraycopy(other.creditOn, 0, creditOn, 0, n);
            System.arraycopy(other.debtOn, 0, debtOn, 0, n);
            System.arraycopy(other.scars, 0, scars, 0, n);
            System.arraycopy(other.left, 0, left, 0, MOST_BODIES);
            System.arraycopy(other.scratched, 0, scratched, 0, MOST_BODIES);
            deals = n;
            year = other.year;
            dead = other.dead;
        }

        // -- looking

        boolean hasDeal(int d) {
            return d >= 0 && d < deals && d < MOST_DEALS;
        }

        boolean isOpen(int d) {
            return hasDeal(d) && state[d] == OPEN;
        }

        boolean lives(int b) {
            return (dead >> b & 1) == 0;
        }

        int bearer(int d, int side) {
            return side == CREDIT ? creditOn[d] : debtOn[d];
        }

        boolean isScarred(int d, int side) {
            return isIn(side, scars[d]);
        }

        int unscarredBearer(int d, int side) {
            return (scars[d] >> side & 1) == 1 ? NONE : bearer(d, side);
        }

        boolean isReadable(int d, int side) {
            int b = unscarredBearer(d, side);
            return b != NONE && lives(b);
        }

        boolean isKnown(int d) {
            boolean credit = isReadable(d, CREDIT);
            boolean debt = isReadable(d, DEBT);
            return port.sort[kind[d]] == JOINT ? credit && debt : credit || debt;
        }

        boolean isLost(int d) {
            return isOpen(d) && port.sort[kind[d]] != FALSE && !isKnown(d);
        }

        int valueOf(int d) {
            return port.valueOf(kind[d], sum[d]);
        }

        int netOf(int b) {
            int net = 0;
            for (int d = 0; d < deals; d++) {
                if (isOpen(d)) {
                    net += lender[d] == b ? valueOf(d) : 0;
                    net -= debtor[d] == b ? valueOf(d) : 0;
                }
            }
            return net;
        }

        int marksOn(int b, int lastYear) {
            int marks = 0;
            for (int d = 0; d < deals; d++) {
                if (written[d] <= lastYear) {
                    marks += creditOn[d] == b ? 1 : 0;
                    marks += debtOn[d] == b ? 1 : 0;
                }
            }
            return marks;
        }

        int openDeals() {
            int open = 0;
            for (int d = 0; d < deals; d++) {
                open += isOpen(d) ? 1 : 0;
            }
            return open;
        }

        int leftOfLiving() {
            int all = 0;
            for (int b = 0; b < port.bodies; b++) {
                all += lives(b) ? left[b] : 0;
            }
            return all;
        }

        int leastLeft(int taken) {
            int best = NONE;
            for (int b = 0; b < port.bodies; b++) {
                if (lives(b) && !isIn(b, taken) && (best == NONE || left[b] < left[best])) {
                    best = b;
                }
            }
            return best;
        }

        int lendersTo(int debtors) {
            int bits = 0;
            for (int d = 0; d < deals; d++) {
                if (isOpen(d) && isIn(debtor[d], debtors)) {
                    bits |= 1 << lender[d];
                }
            }
            return bits;
        }

        int openAhead(int d) {
            int ahead = 0;
            for (int e = 0; e < deals; e++) {
                if (isOpen(e)) {
                    ahead += valueOf(e) > valueOf(d) || valueOf(e) == valueOf(d) && e < d ? 1 : 0;
                }
            }
            return ahead;
        }

        int latestOpen(int first) {
            for (int d = deals - 1; d >= first; d--) {
                if (isOpen(d)) {
                    return d;
                }
            }
            return NONE;
        }

        int openFor(int b, int heir) {
            int passing = 0;
            for (int d = 0; d < deals; d++) {
                boolean isLent = lender[d] == b && debtor[d] != heir;
                boolean isOwed = debtor[d] == b && lender[d] != heir;
                passing += isOpen(d) && (isLent || isOwed) ? 1 : 0;
            }
            return passing;
        }

        // -- what is OWED

        private boolean isToldBy(int d, int side, int found) {
            int b = unscarredBearer(d, side);
            return b != NONE && isIn(b, found);
        }

        private boolean isKnownBy(int d, int found) {
            boolean credit = isToldBy(d, CREDIT, found);
            boolean debt = isToldBy(d, DEBT, found);
            return port.sort[kind[d]] == JOINT ? credit && debt : credit || debt;
        }

        private boolean isOnAny(int d, int found) {
            boolean credit = creditOn[d] != NONE && isIn(creditOn[d], found);
            boolean debt = debtOn[d] != NONE && isIn(debtOn[d], found);
            return credit || debt;
        }

        int owedSurely(int b, int found) {
            int owed = 0;
            for (int d = 0; d < deals; d++) {
                if (isOpen(d) && lender[d] == b && isKnownBy(d, found)) {
                    owed += valueOf(d);
                }
            }
            return owed;
        }

        int owedAtMost(int b, int found) {
            int owed = owedSurely(b, found);
            for (int d = 0; d < deals; d++) {
                if (isOpen(d) && lender[d] == b && !isKnownBy(d, found) && isOnAny(d, found)) {
                    owed += port.valueOf(kind[d], MOST_SUM);
                }
            }
            return owed;
        }

        // -- the ACTS: each answers why it is WRONG, or 0 when it is done

        private int bearerFor(int b, int size) {
            if (left[b] >= size) {
                return b;
            }
            int kin = port.kin[b];
            return kin != NONE && lives(kin) && left[kin] >= size ? kin : NONE;
        }

        /** The DEBT looks for room with the CREDIT standing already. */
        private int debtBearerFor(int b, int size, int creditBearer) {
            left[creditBearer] -= size;
            int found = bearerFor(b, size);
            left[creditBearer] += size;
            return found;
        }

        int wrongToWrite(int from, int to, int k) {
            if (from == to || !lives(from) || !lives(to)) {
                return WRONG_BODIES;
            }
            int credit = bearerFor(from, port.size[k]);
            if (credit == NONE) {
                return WRONG_CREDIT;
            }
            if (debtBearerFor(to, port.size[k], credit) == NONE) {
                return WRONG_DEBT;
            }
            return deals >= MOST_DEALS ? WRONG_FULL : 0;
        }

        int tryWrite(int from, int to, int amount, int k) {
            int wrong = wrongToWrite(from, to, k);
            if (wrong != 0) {
                return wrong;
            }
            int credit = bearerFor(from, port.size[k]);
            int debt = debtBearerFor(to, port.size[k], credit);
            left[credit] -= port.size[k];
            left[debt] -= port.size[k];
            lender[deals] = from;
            debtor[deals] = to;
            sum[deals] = amount;
            kind[deals] = k;
            written[deals] = year;
            state[deals] = OPEN;
            creditOn[deals] = credit;
            debtOn[deals] = debt;
            scars[deals] = 0;
            deals++;
            return 0;
        }

        private boolean isBuried(int b) {
            return b == NONE || !lives(b);
        }

        private boolean hasRoomForLines(int credit, int debt) {
            int needed = credit == debt ? 2 * port.line : port.line;
            return (isBuried(credit) || left[credit] >= needed) && (isBuried(debt) || left[debt] >= needed);
        }

        private void scratch(int b, int room) {
            left[b] -= room;
            scratched[b] += room;
        }

        int tryStrike(int d) {
            if (!isOpen(d)) {
                return WRONG_DEAL;
            }
            if (!hasRoomForLines(creditOn[d], debtOn[d])) {
                return WRONG_LINE;
            }
            state[d] = STRUCK;
            for (int side = CREDIT; side <= DEBT; side++) {
                if (!isBuried(bearer(d, side))) {
                    scratch(bearer(d, side), port.line);
                }
            }
            return 0;
        }

        int tryScar(int d, int side) {
            if (!isOpen(d)) {
                return WRONG_DEAL;
            }
            if (!isReadable(d, side)) {
                return WRONG_MARK;
            }
            scars[d] |= 1 << side;
            return 0;
        }

        /** What would be free, if both MARKS came off. */
        int freedBy(int d) {
            int freed = 0;
            for (int side = CREDIT; side <= DEBT; side++) {
                if (!isBuried(bearer(d, side))) {
                    freed += port.size[kind[d]] - port.dotOn(kind[d]);
                }
            }
            return freed;
        }

        int tryCut(Rings rings) {
            if (!rings.findBest(this)) {
                return WRONG_RING;
            }
            for (int i = 0; i < rings.length && i < MOST_IN_RING; i++) {
                lessen(rings.best[i], rings.least);
            }
            return 0;
        }

        private void lessen(int d, int least) {
            sum[d] -= least;
            if (sum[d] == 0) {
                state[d] = CLOSED;
                takeOff(d, creditOn[d]);
                takeOff(d, debtOn[d]);
                creditOn[d] = NONE;
                debtOn[d] = NONE;
            }
        }

        private void takeOff(int d, int b) {
            if (b != NONE) {
                left[b] += port.size[kind[d]];
                if (lives(b)) {
                    scratch(b, port.dotOn(kind[d]));
                }
            }
        }

        int tryBury(int b, int heir) {
            if (b == heir || !lives(b) || !lives(heir)) {
                return WRONG_BODIES;
            }
            dead |= 1 << b;
            for (int d = 0; d < deals; d++) {
                if (isOpen(d)) {
                    lender[d] = lender[d] == b ? heir : lender[d];
                    debtor[d] = debtor[d] == b ? heir : debtor[d];
                    state[d] = lender[d] == debtor[d] ? CLOSED : OPEN;
                }
            }
            return 0;
        }

        int tryYear() {
            if (year >= MOST_YEAR) {
                return WRONG_YEAR;
            }
            year++;
            return 0;
        }
    }

    /** The states ahead of the latest ACTS: one row more than are kept, for a state noted ahead of an ACT that may be WRONG. */
    private static final class History {
        private static final int ROWS = MOST_UNDONE + 1;

        private final Ledger[] rows = new Ledger[ROWS];
        private int noted;
        private int kept;

        History(Port port) {
            for (int i = 0; i < ROWS; i++) {
                rows[i] = new Ledger(port);
            }
        }

        void forget() {
            kept = 0;
        }

        void note(Ledger now) {
            rows[noted].copyFrom(now);
        }

        void keepNoted() {
            noted = (noted + 1) % ROWS;
            kept = Math.min(kept + 1, MOST_UNDONE);
        }

        int takeBack(Ledger now) {
            if (kept == 0) {
                return NONE;
            }
            noted = (noted + ROWS - 1) % ROWS;
            kept--;
            now.copyFrom(rows[noted]);
            return kept;
        }
    }

    /** A PORT with all that is so in it, kept aside. */
    private static final class Image {
        boolean isKept;
        private final Port port = new Port();
        private final Ledger ledger = new Ledger(port);
        private final Book book = new Book();

        void keep(Port fromPort, Ledger fromLedger, Book fromBook) {
            port.copyFrom(fromPort);
            ledger.copyFrom(fromLedger);
            book.copyFrom(fromBook);
            isKept = true;
        }

        void bringBack(Port toPort, Ledger toLedger, Book toBook) {
            toPort.copyFrom(port);
            toLedger.copyFrom(ledger);
            toBook.copyFrom(book);
        }
    }

    /** The search for the best RING. */
    private static final class Rings {
        final int[] best = new int[MOST_IN_RING];
        int length;
        int frees;
        int least;
        private Ledger ledger;
        private final int[] path = new int[MOST_IN_RING];
        private final int[] freed = new int[MOST_DEALS];
        private int mostFreed;
        /** The DEALS that RINGS may hold, by lenders: those of b that may come next are from low to end. */
        private final int[] byLender = new int[MOST_DEALS];
        private final int[] low = new int[MOST_BODIES];
        private final int[] end = new int[MOST_BODIES];
        private int home;

        boolean findBest(Ledger searched) {
            prepare(searched);
            System.arraycopy(end, 0, low, 0, MOST_BODIES);
            // from the last start down, as then the DEALS behind a start are the ends of the rows
            for (int d = ledger.deals - 1; d >= 0; d--) {
                if (mayBeIn(d)) {
                    start(d);
                    low[ledger.lender[d]]--;
                }
            }
            return length > 0;
        }

        boolean findBestWith(Ledger searched, int d) {
            prepare(searched);
            if (mayBeIn(d)) {
                start(d);
            }
            return length > 0;
        }

        private boolean mayBeIn(int d) {
            return ledger.isOpen(d) && ledger.port.isForRings(ledger.kind[d]);
        }

        private void prepare(Ledger searched) {
            ledger = searched;
            length = 0;
            frees = NONE;
            least = 0;
            mostFreed = 0;
            int n = 0;
            for (int b = 0; b < MOST_BODIES; b++) {
                low[b] = n;
                for (int d = 0; d < ledger.deals; d++) {
                    if (ledger.lender[d] == b && mayBeIn(d)) {
                        byLender[n] = d;
                        n++;
                        freed[d] = ledger.freedBy(d);
                        mostFreed = Math.max(mostFreed, freed[d]);
                    }
                }
                end[b] = n;
            }
        }

        private void start(int d) {
            home = ledger.lender[d];
            path[0] = d;
            int next = ledger.debtor[d];
            extend(1, next, ledger.sum[d], freed[d], 1 << home | 1 << next);
        }

        /** Lays one more DEAL lent by b behind the n DEALS of the path: the least SUM of them, what they free, who is met. */
        private void extend(int n, int b, int leastSum, int free, int met) {
            if (n >= MOST_IN_RING || !isBetter(n + 1, free + (MOST_IN_RING - n) * mostFreed)) {
                return;
            }
            for (int i = low[b]; i < end[b]; i++) {
                int d = byLender[i];
                int next = ledger.debtor[d];
                int sum = ledger.sum[d];
                int nowFree = sum < leastSum ? freed[d] : sum == leastSum ? free + freed[d] : free;
                path[n] = d;
                if (next == home) {
                    offer(n + 1, Math.min(sum, leastSum), nowFree);
                } else if (!isIn(next, met)) {
                    extend(n + 1, next, Math.min(sum, leastSum), nowFree, met | 1 << next);
                }
            }
        }

        /** Among like ones the first met is the best of its start, and a later start is the lesser DEAL. */
        private boolean isBetter(int n, int free) {
            if (free != frees) {
                return free > frees;
            }
            return n < length || n == length && path[0] != best[0];
        }

        private void offer(int n, int leastSum, int free) {
            if (isBetter(n, free)) {
                System.arraycopy(path, 0, best, 0, MOST_IN_RING);
                length = n;
                least = leastSum;
                frees = free;
            }
        }
    }

    /** The new DEALS told last, and the search for how most of them find room. */
    private static final class Packer {
        private static final int NOT_WRITTEN = 4;

        int deals;
        int serial;
        private final int[] lender = new int[MOST_PACKED];
        private final int[] debtor = new int[MOST_PACKED];
        private final int[] kind = new int[MOST_PACKED];
        private final int[] way = new int[MOST_PACKED];
        private final int[] best = new int[MOST_PACKED];
        private final int[] told = new int[MOST_PACKED];
        private final int[] room = new int[MOST_BODIES];
        private int most;
        private Ledger ledger;

        private static boolean isTold(Tape tape, Port port) {
            int n = tape.length / 3;
            if (tape.length % 3 != 0 || n < 1 || n > MOST_PACKED) {
                return false;
            }
            for (int i = 0; i < 3 * n; i += 3) {
                if (!port.hasDealers(tape.byteOr(i, NONE), tape.byteOr(i + 1, NONE), tape.byteOr(i + 2, NONE))) {
                    return false;
                }
            }
            return true;
        }

        boolean take(Tape tape, Port port) {
            if (!isTold(tape, port)) {
                return false;
            }
            deals = Math.min(tape.length / 3, MOST_PACKED);
            serial = port.serial;
            for (int i = 0; i < deals; i++) {
                lender[i] = tape.byteOr(3 * i, 0);
                debtor[i] = tape.byteOr(3 * i + 1, 0);
                kind[i] = tape.byteOr(3 * i + 2, 0);
            }
            return true;
        }

        /** Ahead of any pack() there are no DEALS for a PRICE to be told of, whichever the PORT. */
        boolean isPackedIn(Port port) {
            return deals > 0 && serial == port.serial;
        }

        void keepTold() {
            System.arraycopy(best, 0, told, 0, MOST_PACKED);
        }

        int told(int i) {
            return i >= 0 && i < deals && i < MOST_PACKED && told[i] != NOT_WRITTEN ? told[i] : NONE;
        }

        int search(Ledger searched, int b, int more) {
            ledger = searched;
            most = NONE;
            System.arraycopy(ledger.left, 0, room, 0, MOST_BODIES);
            if (b >= 0 && b < MOST_BODIES) {
                room[b] += more;
            }
            place(0, 0);
            return most;
        }

        /** Ways are tried in their order, so that the first of the most stays. */
        private void place(int i, int written) {
            if (written + deals - i <= most) {
                return;
            }
            if (i >= deals || i >= MOST_PACKED) {
                most = written;
                System.arraycopy(way, 0, best, 0, MOST_PACKED);
                return;
            }
            if (lender[i] != debtor[i] && ledger.lives(lender[i]) && ledger.lives(debtor[i])) {
                for (int w = 0; w < NOT_WRITTEN; w++) {
                    placeBy(i, w, written);
                }
            }
            way[i] = NOT_WRITTEN;
            place(i + 1, written);
        }

        private void placeBy(int i, int w, int written) {
            int credit = (w & 1) == 0 ? lender[i] : ledger.port.kin[lender[i]];
            int debt = (w & 2) == 0 ? debtor[i] : ledger.port.kin[debtor[i]];
            if (credit == NONE || debt == NONE || !ledger.lives(credit) || !ledger.lives(debt)) {
                return;
            }
            int size = ledger.port.size[kind[i]];
            room[credit] -= size;
            room[debt] -= size;
            if (room[credit] >= 0 && room[debt] >= 0) {
                way[i] = w;
                place(i + 1, written + 1);
            }
            room[credit] += size;
            room[debt] += size;
        }
    }

    /** The search for SUMS of what is LOST by which the NETS are as told. */
    private static final class Fitter {
        private final int[] deal = new int[MOST_LOST];
        private final int[] sum = new int[MOST_LOST];
        private final int[] least = new int[MOST_LOST];
        private final int[] greatest = new int[MOST_LOST];
        private final int[] needed = new int[MOST_BODIES];
        private final int[] last = new int[MOST_BODIES];
        private int lost;
        private int toldLost;
        private int most;
        private int ways;
        private boolean isPossible;
        private Ledger ledger;

        boolean take(Tape tape, Ledger searched) {
            ledger = searched;
            int bodies = ledger.port.bodies;
            if (tape.length != 2 * bodies || !findLost()) {
                return false;
            }
            isPossible = true;
            for (int b = 0; b < bodies; b++) {
                int told = tape.byteOr(2 * b, 0) * 256 + tape.byteOr(2 * b + 1, 0) - 10000;
                findNeeded(b, told);
            }
            return true;
        }

        private boolean findLost() {
            lost = 0;
            for (int d = 0; d < ledger.deals; d++) {
                if (ledger.isLost(d)) {
                    if (lost >= MOST_LOST) {
                        return false;
                    }
                    deal[lost] = d;
                    lost++;
                }
            }
            return true;
        }

        /** What the LOST ones must bring to a BODY, and which of them is the last to touch it. */
        private void findNeeded(int b, int told) {
            needed[b] = told - ledger.netOf(b);
            last[b] = NONE;
            for (int i = 0; i < lost; i++) {
                int d = deal[i];
                if (ledger.lender[d] == b || ledger.debtor[d] == b) {
                    last[b] = i;
                    needed[b] += ledger.lender[d] == b ? ledger.valueOf(d) : -ledger.valueOf(d);
                }
            }
            if (last[b] == NONE && ledger.lives(b) && needed[b] != 0) {
                isPossible = false;
            }
        }

        int search(int mostSum) {
            most = mostSum;
            ways = 0;
            toldLost = lost;
            if (isPossible) {
                tryFrom(0);
            }
            return ways;
        }

        private void tryFrom(int i) {
            if (i >= lost || i >= MOST_LOST) {
                noteWay();
                return;
            }
            int from = ledger.lender[deal[i]];
            int to = ledger.debtor[deal[i]];
            int kind = ledger.kind[deal[i]];
            int low = 1;
            int high = most;
            if (last[from] == i || last[to] == i) {
                low = aboutSum(kind, last[from] == i ? needed[from] : -needed[to]);
                high = Math.min(most, low + 1);
            }
            for (int s = Math.max(1, low); s <= high; s++) {
                int value = ledger.port.valueOf(kind, s);
                needed[from] -= value;
                needed[to] += value;
                if ((last[from] != i || needed[from] == 0) && (last[to] != i || needed[to] == 0)) {
                    sum[i] = s;
                    tryFrom(i + 1);
                }
                needed[from] += value;
                needed[to] -= value;
            }
        }

        /** Where a NET hangs on one SUM alone, no SUM brings the VALUE that it needs but this or the next. */
        private int aboutSum(int kind, int value) {
            switch (ledger.port.sort[kind]) {
                case DOUBLED: return value / 2;
                case HALVED: return 2 * value;
                default: return value;
            }
        }

        private void noteWay() {
            for (int i = 0; i < lost; i++) {
                least[i] = ways == 0 ? sum[i] : Math.min(least[i], sum[i]);
                greatest[i] = ways == 0 ? sum[i] : Math.max(greatest[i], sum[i]);
            }
            ways++;
        }

        int told(int i, int what) {
            if (i < 0 || i >= toldLost || i >= MOST_LOST || ways == 0 || what < 0 || what > 1) {
                return NONE;
            }
            return what == 0 ? least[i] : greatest[i];
        }
    }

    /** The fewest payments by which all NETS come to 0. */
    private static final class Settler {
        private final int[] nets = new int[MOST_BODIES];
        private final int[] total = new int[SETS];
        private final int[] groups = new int[SETS];

        /** A group whose NETS come to 0 together needs a payment less than it has BODIES: the most groups need the fewest. */
        int payments(Ledger ledger) {
            int n = 0;
            for (int b = 0; b < ledger.port.bodies; b++) {
                int net = ledger.netOf(b);
                if (net != 0) {
                    nets[n] = net;
                    n++;
                }
            }
            for (int set = 1; set < 1 << n && set < SETS; set++) {
                total[set] = 0;
                groups[set] = 0;
                for (int i = 0; i < n; i++) {
                    if (isIn(i, set)) {
                        int rest = set ^ 1 << i;
                        total[set] = total[rest] + nets[i];
                        groups[set] = Math.max(groups[set], groups[rest]);
                    }
                }
                groups[set] += total[set] == 0 ? 1 : 0;
            }
            return n - groups[(1 << n) - 1];
        }
    }

    /** A text as it was made last. */
    private static final class Text {
        private static final int MOST = 2 * MOST_DEALS * 22;

        int length;
        private final int[] bytes = new int[MOST];

        void add(int c) {
            if (length < MOST) {
                bytes[length] = c;
                length++;
            }
        }

        void addName(long name) {
            for (int shift = 48; shift >= 0; shift -= 8) {
                int c = (int) (name >> shift & 255);
                if (c != 0) {
                    add(c);
                }
            }
        }

        void addNumber(int number) {
            if (number > 9) {
                add('0' + number / 10);
            }
            add('0' + number % 10);
        }

        int at(int i) {
            return i >= 0 && i < length && i < MOST ? bytes[i] : NONE;
        }
    }
}
