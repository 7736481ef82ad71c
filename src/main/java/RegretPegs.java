/** Cloaks hung in order of regret; ../shared/DOC.md tells what each call promises. */
public final class RegretPegs {
    private static final int LOW = -1000000000;
    private static final int BEYOND = 1;
    private static final int NONE = 2;
    private static final int STATE = 3;
    private static final int FULL = 4;
    private static final int UNLIKE_KIND = 5;

    private static final int MOST_GUESTS = 7;
    private static final int MOST_RUE = 999;
    private static final int MOST_DANCED = 999;
    private static final int MOST_HOUR = 9999;
    private static final int MOST_BYTES = 50;
    private static final int MOST_WAITING = 20;
    private static final int MOST_NUMBERS = 40;
    private static final int MOST_BODIES = 40;
    private static final int MOST_OPEN = 5;
    private static final int SHEETS = 4;
    private static final int FAR = 60;
    private static final int NOBODY = -1;

    private static final int KINDS = 7;
    private static final int GIRL = 1;
    private static final int FELLOW = 2;
    private static final int CHAPERONE = 3;
    private static final int BEAUTY = 4;
    private static final int FIANCE = 5;
    private static final int AUNT = 6;
    /** The KIND above each KIND. */
    private static final int[] ABOVE = {-1, 0, 0, 0, 1, 2, 3};

    private static final int DANCES = 0;
    private static final int SIGHS = 1;
    private static final int LOOKS = 2;
    private static final int TELLS = 3;
    /** The BODIES by KIND (a row of four each) and act; 0: the KIND has none of its own. */
    private static final int[] BODIES = {
        10, 11, 12, 13,
        20, 0, 0, 0,
        0, 30, 0, 0,
        0, 0, 40, 0,
        0, 0, 0, 50,
        0, 60, 0, 0,
        0, 0, 70, 71,
    };

    private final Evening now = new Evening();
    private final Evening kept = new Evening();
    private int images = 0;
    /** What is only thought is worked out on these two, so that the ball itself stays. */
    private final Ball thought = new Ball();
    private final Ball firstDanced = new Ball();
    private final Reader reader = new Reader();
    private final Voices voices = new Voices();
    private final Sheet[] sheets = {new Sheet(), new Sheet(), new Sheet(), new Sheet()};
    private final int[] errors = new int[6];

    public RegretPegs() {
    }

    // ---- guests, pegs

    public int guest(int km, int rue) {
        if (!isKindAndNumber(km) || !isWithin(rue, 0, MOST_RUE)) {
            return refuse(BEYOND);
        }
        if (now.ball.size >= MOST_GUESTS) {
            return refuse(FULL);
        }
        return now.ball.admit(km, rue);
    }

    public int ofGuest(int guest, int what) {
        if (!isGuest(guest)) {
            return refuse(BEYOND);
        }
        Ball ball = now.ball;
        switch (what) {
            case 0: return ball.kind[guest];
            case 1: return ball.m[guest];
            case 2: return ball.rue[guest];
            case 3: return ball.danced[guest];
            case 4: return ball.idle[guest];
            case 5: return ball.pegOf(guest);
            case 6: return ball.growsOn(ball.pegOf(guest));
            default: return refuse(BEYOND);
        }
    }

    public int change(int guest, int what, int v) {
        if (!isGuest(guest)) {
            return refuse(BEYOND);
        }
        switch (what) {
            case 0: return replace(now.ball.rue, guest, v, MOST_RUE);
            case 1: return replace(now.ball.danced, guest, v, MOST_DANCED);
            case 2: return replace(now.ball.idle, guest, v, 1);
            default: return refuse(BEYOND);
        }
    }

    public int peg(int peg) {
        return isPeg(peg) ? now.ball.order[peg] : refuse(BEYOND);
    }

    public int hang(int one, int other) {
        if (!isPeg(one) || !isPeg(other)) {
            return refuse(BEYOND);
        }
        now.ball.exchange(one, other);
        return now.ball.order[one];
    }

    public int become(int guest, int km) {
        if (!isGuest(guest) || !isKindAndNumber(km)) {
            return refuse(BEYOND);
        }
        int was = now.ball.kind[guest];
        now.ball.kind[guest] = km / 10;
        now.ball.m[guest] = km % 10;
        return was;
    }

    public int as(int guest, int kind) {
        if (!isGuest(guest) || !isWithin(kind, 0, AUNT)) {
            return refuse(BEYOND);
        }
        return isUnder(now.ball.kind[guest], kind) ? now.ball.m[guest] : refuse(UNLIKE_KIND);
    }

    // ---- texts

    public int feed(long word, int n) {
        if (!isWithin(n, 1, 8)) {
            return refuse(BEYOND);
        }
        if (now.taped + n > MOST_BYTES) {
            return refuse(FULL);
        }
        for (int i = 0; i < n; i++) {
            now.tape[now.taped + i] = (byte) (word >>> (8 * i));
        }
        now.taped += n;
        return now.taped;
    }

    public int text(int use) {
        if (!isWithin(use, 0, 1)) {
            return refuse(BEYOND);
        }
        boolean read = reader.reads(now.tape, now.taped, use);
        now.taped = 0;
        if (!read) {
            return -10 - reader.at;
        }
        useLaw(use).takeCode(reader.code, reader.size);
        return 1;
    }

    public int law(int use, int a, int b, int c) {
        return isWithin(use, 0, 1) ? useLaw(use).give(a, b, c) : refuse(BEYOND);
    }

    // ---- dances, hours

    public int dance(int one, int other) {
        if (!isGuest(one) || !isGuest(other) || one == other) {
            return refuse(BEYOND);
        }
        if (now.ball.idle[one] == 0 || now.ball.idle[other] == 0) {
            return refuse(STATE);
        }
        now.ball.pairUp(one, other, now.dancing);
        return now.ball.rue[one];
    }

    public int hours(int n) {
        if (!isWithin(n, 1, FAR)) {
            return refuse(BEYOND);
        }
        if (now.hour + n > MOST_HOUR) {
            return refuse(STATE);
        }
        now.ball.passHours(n, now.shifts);
        now.hour += n;
        return now.ball.rueTogether();
    }

    public int loose(int n) {
        if (!isWithin(n, 1, 40)) {
            return refuse(BEYOND);
        }
        if (now.hour + n > MOST_HOUR) {
            return refuse(STATE);
        }
        for (int i = 0; i < n; i++) {
            now.holdBall();
        }
        return now.ball.rueTogether();
    }

    // ---- what would be

    public int then(int n, int guest, int what) {
        if (!isWithin(n, 0, FAR) || !isGuest(guest) || !isWithin(what, 0, 1)) {
            return refuse(BEYOND);
        }
        thought.takeFrom(now.ball);
        thought.passHours(n, now.shifts);
        return what == 0 ? thought.rue[guest] : thought.pegOf(guest);
    }

    public int last(int guest) {
        if (!isGuest(guest)) {
            return refuse(BEYOND);
        }
        thought.takeFrom(now.ball);
        for (int n = 0; n <= FAR; n++) {
            if (thought.lastGuest() == guest) {
                return n;
            }
            thought.passHours(1, now.shifts);
        }
        return refuse(NONE);
    }

    public int partner(int guest, int n, int what) {
        if (!isGuest(guest) || !isWithin(n, 0, 20) || !isWithin(what, 0, 1)) {
            return refuse(BEYOND);
        }
        int who = NOBODY;
        int least = MOST_GUESTS;
        for (int other = 0; other < now.ball.size; other++) {
            if (other != guest) {
                int peg = pegHavingDanced(guest, other, n);
                if (peg < least) {
                    least = peg;
                    who = other;
                }
            }
        }
        if (who == NOBODY) {
            return refuse(NONE);
        }
        return what == 0 ? who : least;
    }

    public int dances(int guest, int peg, int n, int what) {
        if (!isGuest(guest) || !isPeg(peg) || !isWithin(n, 0, 6) || !isWithin(what, 0, 1)) {
            return refuse(BEYOND);
        }
        thought.takeFrom(now.ball);
        thought.passHours(n, now.shifts);
        if (thought.pegOf(guest) <= peg) {
            return what == 0 ? 0 : -1;
        }
        int first = danceThatHelps(now.ball, guest, peg, n);
        if (first >= 0) {
            return what == 0 ? 1 : first;
        }
        first = firstOfTwoThatHelp(guest, peg, n);
        if (first >= 0) {
            return what == 0 ? 2 : first;
        }
        return refuse(NONE);
    }

    public int whoDanced(int sheet, int what) {
        if (!isSheet(sheet) || !isWithin(what, 0, 1)) {
            return refuse(BEYOND);
        }
        Sheet row = sheets[sheet];
        if (row.bits == 0 || row.size != now.ball.size) {
            return refuse(NONE);
        }
        int pairs = 0;
        int first = NOBODY;
        for (int one = 0; one < now.ball.size; one++) {
            for (int other = one + 1; other < now.ball.size; other++) {
                thought.takeFrom(now.ball);
                thought.pairUp(one, other, now.dancing);
                if (row.tellsRueOf(thought)) {
                    first = pairs == 0 ? 10 * one + other : first;
                    pairs++;
                }
            }
        }
        if (what == 0) {
            return pairs;
        }
        return pairs == 0 ? refuse(NONE) : first;
    }

    public int inOrder() {
        thought.takeFrom(now.ball);
        for (int n = 0; n <= FAR; n++) {
            if (thought.wrongPairs() == 0) {
                return n;
            }
            thought.passHours(1, now.shifts);
        }
        return refuse(NONE);
    }

    public int wrongs() {
        return now.ball.wrongPairs();
    }

    public int swap() {
        int least = now.ball.wrongPairs();
        int pair = -1;
        for (int one = 0; one < now.ball.size; one++) {
            for (int other = one + 1; other < now.ball.size; other++) {
                thought.takeFrom(now.ball);
                thought.exchange(thought.pegOf(one), thought.pegOf(other));
                int wrong = thought.wrongPairs();
                if (wrong < least) {
                    least = wrong;
                    pair = 10 * one + other;
                }
            }
        }
        return pair;
    }

    public int go(int guest, int n) {
        if (!isGuest(guest) || !isWithin(n, 0, 20)) {
            return refuse(BEYOND);
        }
        int who = NOBODY;
        int least = MOST_GUESTS;
        for (int other = 0; other < now.ball.size; other++) {
            if (other != guest) {
                thought.takeFrom(now.ball);
                thought.rue[other] = 0;
                thought.passHours(n, now.shifts);
                int peg = thought.pegOf(guest);
                if (peg < least) {
                    least = peg;
                    who = other;
                }
            }
        }
        return who == NOBODY ? refuse(NONE) : who;
    }

    public int allRue(int n) {
        if (!isWithin(n, 0, FAR)) {
            return refuse(BEYOND);
        }
        thought.takeFrom(now.ball);
        thought.passHours(n, now.shifts);
        return thought.rueTogether();
    }

    public int sorriest(int n, int what) {
        if (!isWithin(n, 0, FAR) || !isWithin(what, 0, 1)) {
            return refuse(BEYOND);
        }
        if (now.ball.size == 0) {
            return refuse(NONE);
        }
        thought.takeFrom(now.ball);
        thought.passHours(n, now.shifts);
        int who = 0;
        for (int other = 1; other < thought.size; other++) {
            if (thought.rue[other] > thought.rue[who]) {
                who = other;
            }
        }
        return what == 0 ? who : thought.rue[who];
    }

    public int odds(int guest, int peg, int n, int part) {
        if (!isGuest(guest) || !isPeg(peg) || !isWithin(n, 0, FAR) || !isWithin(part, 0, 1)) {
            return refuse(BEYOND);
        }
        int partners = now.ball.size - 1;
        if (partners == 0) {
            return refuse(NONE);
        }
        int good = 0;
        for (int other = 0; other <= partners; other++) {
            if (other != guest && pegHavingDanced(guest, other, n) <= peg) {
                good++;
            }
        }
        int common = greatestCommon(good, partners);
        return part == 0 ? good / common : partners / common;
    }

    // ---- draws, voices, sheets, images, what is told

    public int seed(int v) {
        int was = now.z;
        now.z = v;
        return was;
    }

    public int voice(int guest, int act, int x) {
        if (!isGuest(guest) || !isWithin(act, DANCES, TELLS)) {
            return refuse(BEYOND);
        }
        return voices.hear(guest, now.ball.kind[guest], now.ball.m[guest], act, x);
    }

    public int trace(int i) {
        return isWithin(i, 0, voices.begun - 1) ? voices.bodies[i] : refuse(NONE);
    }

    public int sheet(int sheet, int bits, int n) {
        if (!isSheet(sheet) || (bits != 0 && bits != 8 && bits != 16 && bits != 32)) {
            return refuse(BEYOND);
        }
        if (bits == 0) {
            sheets[sheet].lay(0, 0);
            return 1;
        }
        if (n < 0) {
            return refuse(STATE);
        }
        if (n > MOST_NUMBERS) {
            return refuse(BEYOND);
        }
        sheets[sheet].lay(bits, n);
        return 1;
    }

    public int put(int sheet, int i, int v) {
        if (!isSheet(sheet)) {
            return refuse(BEYOND);
        }
        if (sheets[sheet].bits == 0) {
            return refuse(NONE);
        }
        if (!isWithin(i, 0, sheets[sheet].size - 1)) {
            return refuse(BEYOND);
        }
        sheets[sheet].write(i, v);
        return 1;
    }

    public int move(int sheet, int i, int other, int j, int n) {
        if (!isSheet(sheet) || !isSheet(other)) {
            return refuse(BEYOND);
        }
        Sheet from = sheets[sheet];
        Sheet to = sheets[other];
        if (from.bits == 0 || to.bits == 0) {
            return refuse(NONE);
        }
        if (from.bits != to.bits) {
            return refuse(UNLIKE_KIND);
        }
        if (!from.hasStretch(i, n) || !to.hasStretch(j, n)) {
            return refuse(BEYOND);
        }
        // arraycopy takes them as they all were, where the two stretches overlap, too.
        System.arraycopy(from.numbers, i, to.numbers, j, n);
        return n;
    }

    public int rues(int sheet) {
        if (!isSheet(sheet)) {
            return refuse(BEYOND);
        }
        Sheet row = sheets[sheet];
        if (row.bits == 0) {
            return refuse(NONE);
        }
        int most = Math.min(row.size, now.ball.size);
        for (int i = 0; i < most; i++) {
            if (!isWithin(row.numbers[i], 0, MOST_RUE)) {
                return i;
            }
            now.ball.rue[i] = row.numbers[i];
        }
        return most;
    }

    public int judge(int sheet) {
        if (!isSheet(sheet)) {
            return refuse(BEYOND);
        }
        Sheet row = sheets[sheet];
        if (row.bits == 0) {
            return refuse(NONE);
        }
        int both = Math.min(row.size, now.ball.size);
        for (int i = 0; i < both; i++) {
            if (row.numbers[i] != now.ball.order[i]) {
                return i;
            }
        }
        return row.size == now.ball.size ? -1 : both;
    }

    public int image() {
        kept.takeFrom(now);
        images++;
        return images;
    }

    public int restore() {
        if (images == 0) {
            return refuse(NONE);
        }
        now.takeFrom(kept);
        return now.hour;
    }

    public int tell(int v) {
        if (now.waits >= MOST_WAITING) {
            return refuse(FULL);
        }
        now.waiting[now.waits] = v;
        now.waits++;
        return now.waits;
    }

    public int check() {
        int waited = now.waits;
        now.waits = 0;
        thought.takeFrom(now.ball);
        for (int i = 0; i < waited; i++) {
            thought.passHours(1, now.shifts);
            if (thought.rueTogether() != now.waiting[i]) {
                return 1 + i;
            }
        }
        return 0;
    }

    public int count(int what) {
        switch (what) {
            case 0: return now.ball.size;
            case 1: return now.hour;
            case 2: return now.ball.rueTogether();
            case 3: return now.ball.dancedTogether();
            case 4: return now.ball.idleSet();
            case 5: return now.ball.lastGuest();
            case 6: return now.taped;
            case 7: return now.waits;
            case 8: return voices.begun;
            case 9: return now.z;
            default: return refuse(BEYOND);
        }
    }

    public int told(int k) {
        return isWithin(k, BEYOND, UNLIKE_KIND) ? errors[k] : refuse(BEYOND);
    }

    // ---- what the calls share

    private int refuse(int error) {
        errors[error]++;
        return LOW - error;
    }

    private int replace(int[] row, int guest, int v, int most) {
        if (!isWithin(v, 0, most)) {
            return refuse(BEYOND);
        }
        int was = row[guest];
        row[guest] = v;
        return was;
    }

    private boolean isGuest(int guest) {
        return guest >= 0 && guest < now.ball.size;
    }

    /** There are as many PEGS as GUESTS. */
    private boolean isPeg(int peg) {
        return isGuest(peg);
    }

    private static boolean isSheet(int sheet) {
        return sheet >= 0 && sheet < SHEETS;
    }

    private static boolean isWithin(int v, int least, int most) {
        return v >= least && v <= most;
    }

    private static boolean isKindAndNumber(int km) {
        return isWithin(km, 0, 10 * AUNT + 9);
    }

    private static boolean isUnder(int kind, int above) {
        int k = kind;
        for (int steps = 0; steps < KINDS && k >= 0; steps++) {
            if (k == above) {
                return true;
            }
            k = ABOVE[k];
        }
        return false;
    }

    private Law useLaw(int use) {
        return use == 0 ? now.dancing : now.shifts;
    }

    private int pegHavingDanced(int guest, int other, int n) {
        thought.takeFrom(now.ball);
        thought.pairUp(guest, other, now.dancing);
        thought.passHours(n, now.shifts);
        return thought.pegOf(guest);
    }

    /** The least pair whose DANCE brings a GUEST to a PEG, or ahead of it; -1: none does. */
    private int danceThatHelps(Ball from, int guest, int peg, int n) {
        for (int one = 0; one < from.size; one++) {
            for (int other = one + 1; other < from.size; other++) {
                thought.takeFrom(from);
                thought.pairUp(one, other, now.dancing);
                thought.passHours(n, now.shifts);
                if (thought.pegOf(guest) <= peg) {
                    return 10 * one + other;
                }
            }
        }
        return -1;
    }

    private int firstOfTwoThatHelp(int guest, int peg, int n) {
        for (int one = 0; one < now.ball.size; one++) {
            for (int other = one + 1; other < now.ball.size; other++) {
                firstDanced.takeFrom(now.ball);
                firstDanced.pairUp(one, other, now.dancing);
                if (danceThatHelps(firstDanced, guest, peg, n) >= 0) {
                    return 10 * one + other;
                }
            }
        }
        return -1;
    }

    private static int greatestCommon(int v, int positive) {
        for (int d = positive; d > 1; d--) {
            if (v % d == 0 && positive % d == 0) {
                return d;
            }
        }
        return 1;
    }

    private static int heldRue(int rue) {
        return Math.max(0, Math.min(rue, MOST_RUE));
    }

    /** The GUESTS and THE ORDER: what a thought changes, apart from what it only reads. */
    private static final class Ball {
        int size = 0;
        final int[] kind = new int[MOST_GUESTS];
        final int[] m = new int[MOST_GUESTS];
        final int[] rue = new int[MOST_GUESTS];
        final int[] danced = new int[MOST_GUESTS];
        final int[] idle = new int[MOST_GUESTS];
        /** The GUEST by PEG. */
        final int[] order = new int[MOST_GUESTS];

        void takeFrom(Ball other) {
            size = other.size;
            System.arraycopy(other.kind, 0, kind, 0, MOST_GUESTS);
            System.arraycopy(other.m, 0, m, 0, MOST_GUESTS);
            System.arraycopy(other.rue, 0, rue, 0, MOST_GUESTS);
            System.arraycopy(other.danced, 0, danced, 0, MOST_GUESTS);
            System.arraycopy(other.idle, 0, idle, 0, MOST_GUESTS);
            System.arraycopy(other.order, 0, order, 0, MOST_GUESTS);
        }

        /** The caller has seen that there is room. */
        int admit(int km, int itsRue) {
            int guest = size;
            kind[guest] = km / 10;
            m[guest] = km % 10;
            rue[guest] = itsRue;
            danced[guest] = 0;
            idle[guest] = 1;
            order[guest] = guest;
            size++;
            return guest;
        }

        int pegOf(int guest) {
            for (int p = 0; p < size; p++) {
                if (order[p] == guest) {
                    return p;
                }
            }
            return 0;
        }

        int lastGuest() {
            return size == 0 ? NOBODY : order[size - 1];
        }

        void exchange(int onePeg, int otherPeg) {
            int guest = order[onePeg];
            order[onePeg] = order[otherPeg];
            order[otherPeg] = guest;
        }

        int growsOn(int peg) {
            int guest = order[peg];
            int asGirl = 1 + m[guest] % 3;
            switch (kind[guest]) {
                case GIRL: return asGirl;
                case FELLOW: return 2;
                case CHAPERONE: return 0;
                case BEAUTY: return danced[guest] == 0 ? 4 * asGirl : asGirl;
                case FIANCE: return 2 + (size - 1 - peg);
                case AUNT: return -m[guest];
                default: return 1;
            }
        }

        void pairUp(int one, int other, Law dancing) {
            int rueOfOne = dancing.give(rue[one], rue[other], m[one]);
            rue[other] = dancing.give(rue[other], rue[one], m[other]);
            rue[one] = rueOfOne;
            noteDanced(one);
            noteDanced(other);
        }

        private void noteDanced(int guest) {
            danced[guest] = Math.min(danced[guest] + 1, MOST_DANCED);
            idle[guest] = 0;
        }

        void passHours(int n, Law shifts) {
            for (int i = 0; i < n; i++) {
                growRue();
                shiftNeighbours(shifts);
            }
        }

        /** No cloak moves here, and nobody's GROWS asks for RUE: so one by one is all at once. */
        private void growRue() {
            for (int p = 0; p < size; p++) {
                int guest = order[p];
                if (idle[guest] != 0) {
                    rue[guest] = heldRue(rue[guest] + growsOn(p));
                }
                idle[guest] = 1;
            }
        }

        private void shiftNeighbours(Law shifts) {
            for (int p = 0; p + 1 < size; p++) {
                int ahead = order[p];
                int differs = rue[ahead] - rue[order[p + 1]];
                if (differs > 0 && shifts.give(differs, m[ahead], p) != 0) {
                    exchange(p, p + 1);
                }
            }
        }

        int wrongPairs() {
            int wrong = 0;
            for (int p = 0; p < size; p++) {
                for (int q = p + 1; q < size; q++) {
                    if (rue[order[p]] > rue[order[q]]) {
                        wrong++;
                    }
                }
            }
            return wrong;
        }

        int rueTogether() {
            int sum = 0;
            for (int i = 0; i < size; i++) {
                sum += rue[i];
            }
            return sum;
        }

        int dancedTogether() {
            int sum = 0;
            for (int i = 0; i < size; i++) {
                sum += danced[i];
            }
            return sum;
        }

        int idleSet() {
            int set = 0;
            for (int i = 0; i < size; i++) {
                set |= idle[i] << i;
            }
            return set;
        }
    }

    /** What an IMAGE keeps. */
    private static final class Evening {
        final Ball ball = new Ball();
        final Law dancing = new Law(0);
        final Law shifts = new Law(1);
        final byte[] tape = new byte[MOST_BYTES];
        int taped = 0;
        final int[] waiting = new int[MOST_WAITING];
        int waits = 0;
        int hour = 0;
        int z = 1;

        void takeFrom(Evening other) {
            ball.takeFrom(other.ball);
            dancing.takeCode(other.dancing.code, other.dancing.size);
            shifts.takeCode(other.shifts.code, other.shifts.size);
            System.arraycopy(other.tape, 0, tape, 0, MOST_BYTES);
            taped = other.taped;
            System.arraycopy(other.waiting, 0, waiting, 0, MOST_WAITING);
            waits = other.waits;
            hour = other.hour;
            z = other.z;
        }

        void holdBall() {
            if (ball.size >= 2) {
                int one = draw() % ball.size;
                int other = draw() % ball.size;
                if (one != other) {
                    ball.pairUp(one, other, dancing);
                }
            }
            ball.passHours(1, shifts);
            hour++;
        }

        private int draw() {
            z = z * 1103515245 + 12345;
            return z >>> 8;
        }
    }

    /**
     * A USE with its TEXT, if it has one. The code has each part behind what it works on:
     * a NUMBER as itself, a NAME as -1, -2, -3, a sign as its byte below 0.
     */
    private static final class Law {
        private final int use;
        int size = 0;
        final int[] code = new int[MOST_BYTES];
        /** As long as the code: no code has more values open than it has parts. */
        private final int[] values = new int[MOST_BYTES];

        Law(int use) {
            this.use = use;
        }

        void takeCode(int[] from, int n) {
            System.arraycopy(from, 0, code, 0, MOST_BYTES);
            size = Math.min(n, MOST_BYTES);
        }

        int give(int a, int b, int c) {
            if (use == 0) {
                return heldRue(size == 0 ? (a + b) / 2 : work(a, b, c));
            }
            return size == 0 ? 1 : Math.max(0, Math.min(work(a, b, c), 1));
        }

        private int work(int a, int b, int c) {
            int open = 0;
            for (int i = 0; i < size; i++) {
                int part = code[i];
                if (part >= -3) {
                    if (open < MOST_BYTES) {
                        values[open] = valueOf(part, a, b, c);
                        open++;
                    }
                } else if (part == -'!') {
                    if (open >= 1) {
                        values[open - 1] = values[open - 1] == 0 ? 1 : 0;
                    }
                } else if (open >= 2) {
                    open--;
                    values[open - 1] = join(-part, values[open - 1], values[open]);
                }
            }
            return values[0];
        }

        private static int valueOf(int part, int a, int b, int c) {
            switch (part) {
                case -1: return a;
                case -2: return b;
                case -3: return c;
                default: return part;
            }
        }

        private static int join(int sign, int left, int right) {
            switch (sign) {
                case '|': return left != 0 || right != 0 ? 1 : 0;
                case '&': return left != 0 && right != 0 ? 1 : 0;
                case '<': return left < right ? 1 : 0;
                case '=': return left == right ? 1 : 0;
                case '>': return left > right ? 1 : 0;
                case '+': return left + right;
                case '-': return left - right;
                case '*': return left * right;
                case '/': return right == 0 ? 0 : left / right;
                case '%': return right == 0 ? 0 : left % right;
                default: return 0;
            }
        }
    }

    /**
     * Reads a TEXT. Each part looks at one byte ahead alone and takes none that can't go on,
     * so, where a part fails, the place reached is the FAULT.
     */
    private static final class Reader {
        private static final int COMPARING = 2;
        private static final int INNERMOST = 4;

        /** Its own bytes, so that no other object's row is held here. */
        private final byte[] bytes = new byte[MOST_BYTES];
        private int length = 0;
        private int use = 0;
        int at = 0;
        int size = 0;
        final int[] code = new int[MOST_BYTES];

        boolean reads(byte[] tape, int taped, int theUse) {
            length = Math.min(taped, MOST_BYTES);
            System.arraycopy(tape, 0, bytes, 0, length);
            use = theUse;
            at = 0;
            size = 0;
            return readLevel(0, 0) && at == length;
        }

        /** The byte ahead; 0, which no part takes, at the end. */
        private int ahead() {
            return at < length ? bytes[at] : 0;
        }

        /** There is room, as each part stands for a byte or more of its own; it is looked at all the same. */
        private void emit(int part) {
            if (size < MOST_BYTES) {
                code[size] = part;
                size++;
            }
        }

        /** T, A, B, S, P are levels 0 to 4: all are alike, but that a B has one sign at most. */
        private boolean readLevel(int level, int open) {
            if (level > INNERMOST) {
                return readQ(open);
            }
            if (!readLevel(level + 1, open)) {
                return false;
            }
            int most = level == COMPARING ? 1 : MOST_BYTES;
            for (int i = 0; i < most && levelOf(ahead()) == level; i++) {
                int sign = ahead();
                at++;
                if (!readLevel(level + 1, open)) {
                    return false;
                }
                emit(-sign);
            }
            return true;
        }

        private static int levelOf(int sign) {
            switch (sign) {
                case '|': return 0;
                case '&': return 1;
                case '<': case '=': case '>': return COMPARING;
                case '+': case '-': return 3;
                case '*': case '/': case '%': return INNERMOST;
                default: return -1;
            }
        }

        private boolean readQ(int open) {
            int sign = ahead();
            if (isDigit(sign)) {
                readNumber();
                return true;
            }
            int name = nameOf(sign);
            if (name != 0) {
                at++;
                emit(name);
                return true;
            }
            if ((sign != '!' && sign != '(') || open >= MOST_OPEN) {
                return false;
            }
            at++;
            return sign == '!' ? readNot(open + 1) : readClosed(open + 1);
        }

        private boolean readNot(int open) {
            if (!readQ(open)) {
                return false;
            }
            emit(-'!');
            return true;
        }

        private boolean readClosed(int open) {
            if (!readLevel(0, open) || ahead() != ')') {
                return false;
            }
            at++;
            return true;
        }

        /** A fifth digit is left: nothing goes on with it. */
        private void readNumber() {
            int number = 0;
            for (int i = 0; i < 4 && isDigit(ahead()); i++) {
                number = 10 * number + (ahead() - '0');
                at++;
            }
            emit(number);
        }

        private static boolean isDigit(int sign) {
            return sign >= '0' && sign <= '9';
        }

        private int nameOf(int sign) {
            switch (sign) {
                case 'r': return use == 0 ? -1 : 0;
                case 'o': return use == 0 ? -2 : 0;
                case 'd': return use == 1 ? -1 : 0;
                case 'm': return use == 0 ? -3 : -2;
                case 'p': return use == 1 ? -3 : 0;
                default: return 0;
            }
        }
    }

    /** The VOICES of one GUEST at a time, and THE TRACE of the latest. */
    private static final class Voices {
        /** Far above the longest chain of BODIES, which all come to dances or looks of a GUEST. */
        private static final int DEEPEST = 30;

        private int kind = 0;
        private int n = 0;
        private int m = 0;
        int begun = 0;
        final int[] bodies = new int[MOST_BODIES];

        int hear(int guest, int itsKind, int itsM, int act, int x) {
            n = guest;
            kind = itsKind;
            m = itsM;
            begun = 0;
            return speak(kind, act, x, 0);
        }

        /** The BODY of an act that a KIND has, or the next KIND above that has one. */
        private int speak(int from, int act, int x, int depth) {
            if (depth > DEEPEST) {
                return 0;
            }
            int k = from;
            for (int steps = 0; steps < KINDS && k >= 0; steps++) {
                int body = BODIES[4 * k + act];
                if (body != 0) {
                    note(body);
                    return answer(body, ABOVE[k], x, depth + 1);
                }
                k = ABOVE[k];
            }
            return 0;
        }

        private void note(int body) {
            if (begun < MOST_BODIES) {
                bodies[begun] = body;
                begun++;
            }
        }

        private int answer(int body, int above, int x, int depth) {
            switch (body) {
                case 10: return x + n;
                case 11: return speak(kind, DANCES, x, depth) * 2;
                case 12: return x - m;
                case 13: return speak(kind, SIGHS, x, depth) ^ speak(kind, LOOKS, x, depth);
                case 20: return speak(above, DANCES, x, depth) * 3;
                case 30: return speak(above, SIGHS, x, depth) - speak(kind, LOOKS, 1, depth);
                case 40: return -speak(above, LOOKS, x, depth);
                case 50: return speak(above, TELLS, x, depth) - speak(kind, DANCES, 2, depth);
                case 60: return speak(above, SIGHS, x + 1, depth);
                case 70: return speak(above, LOOKS, x, depth) ^ n;
                case 71: return speak(kind, SIGHS, x, depth) - speak(above, TELLS, x, depth);
                default: return 0;
            }
        }
    }

    /** A row of numbers, each held as the signed number that its bits make; bits 0: missing. */
    private static final class Sheet {
        int bits = 0;
        int size = 0;
        final int[] numbers = new int[MOST_NUMBERS];

        void lay(int itsBits, int n) {
            bits = itsBits;
            size = n;
            for (int i = 0; i < MOST_NUMBERS; i++) {
                numbers[i] = 0;
            }
        }

        void write(int i, int v) {
            if (bits == 8) {
                numbers[i] = (byte) v;
            } else if (bits == 16) {
                numbers[i] = (short) v;
            } else {
                numbers[i] = v;
            }
        }

        boolean hasStretch(int from, int n) {
            // The room behind from, so that no sum can wrap.
            return n >= 0 && from >= 0 && from <= size && n <= size - from;
        }

        boolean tellsRueOf(Ball ball) {
            for (int i = 0; i < size && i < ball.size; i++) {
                if (numbers[i] != ball.rue[i]) {
                    return false;
                }
            }
            return true;
        }
    }
}
