/** A judge of firm grasps on a plate with corners at whole places; ../shared/DOC.md is what it keeps to. */
public final class GraspJudge {
    public static final int NONE = -1;
    public static final long NO_NUMBER = -9000000000000000000L;

    private static final int ABSENT = -2;
    private static final int OCCUPIED = -2;
    private static final int NO_SUCH_TEXT = -2;
    private static final int FULL = -3;

    private static final int MOST_CORNERS = 8;
    private static final int MOST_PLACES = 72;
    private static final int MOST_FINGERS = 6;
    private static final int MOST_LOADS = 6;
    private static final int MOST_CLAUSES = 12;
    private static final int MOST_PAST = 20;
    private static final int MOST_BYTES = 240;
    // BEST asks for a seventh FINGER, two WRENCHES each
    private static final int MOST_WRENCHES = 14;
    private static final int MOST_COUPLES = 91;
    // a body with 14 corners has at most 2 * 14 - 4 sides, a cone between 14 planes at most 14 rays
    private static final int MOST_SIDES = 24;
    private static final int MOST_FREES = 14;

    private static final int PLATE_TEXT = 60;
    private static final int ORDERS_TEXT = 120;
    private static final int LOADS_TEXT = 60;
    private static final int CHECK_TEXT = 12;

    private static final int FAULT_SIGN = 1;
    private static final int FAULT_DIGIT = 2;
    private static final int FAULT_MANY = 4;
    private static final int FAULT_PLATE = 5;

    private static final int NO_SIGN = -1;
    private static final int BLANK = 32;
    private static final int COMMA = 44;
    private static final int MINUS = 45;
    private static final int ZERO = 48;
    private static final int NINE = 57;
    private static final int SEMICOLON = 59;
    private static final int LETTER_A = 97;
    private static final int LETTER_Z = 122;

    private static final int PUT = 0;
    private static final int TAKE = 1;
    private static final int TREAD = 2;
    private static final int CENTRE = 3;
    private static final int TURN = 4;

    private static final int MOST_PUSH = 1000;
    private static final int MOST_WEIGHT = 9;
    private static final int MOST_LIMIT = 10000;
    private static final int MOST_STORM = 60;
    private static final int MOST_SEED = 65535;
    private static final int MOST_INSIDE = 20;
    private static final int LAST_PLACE = 9;

    // all TREADS in lowest terms, rising
    private static final int[] ROUGH_M = {0, 1, 1, 2, 1, 3, 2, 3};
    private static final int[] ROUGH_Q = {1, 3, 2, 3, 1, 2, 1, 1};

    private static final int[] TILT_X = {1, 1, 0, -1, -1, -1, 0, 1};
    private static final int[] TILT_Y = {0, 1, 1, 1, 0, -1, -1, -1};

    private final Tape tape;
    private final State now;
    private final State kept;
    private final Plate draft;
    private final Orders script;
    private final int[] draftLoads;
    private final Bundle grip;
    private final Sides sides;
    private final Hold hold;
    private final Release release;
    private final Trials trials;
    private boolean wasKept;
    private int rank;
    private boolean firm;

    public GraspJudge() {
        tape = new Tape();
        now = new State();
        kept = new State();
        draft = new Plate();
        script = new Orders();
        draftLoads = new int[3 * MOST_LOADS];
        grip = new Bundle();
        sides = new Sides();
        hold = new Hold();
        release = new Release();
        trials = new Trials();
        wasKept = false;
        rank = 0;
        firm = false;
    }

    // ---- texts ----

    public int feed(int a, int b, int c, int d, int e) {
        if (tape.size + 20 > MOST_BYTES) {
            return NONE;
        }
        tape.append(a);
        tape.append(b);
        tape.append(c);
        tape.append(d);
        tape.append(e);
        return tape.size;
    }

    public int plate(int n) {
        if (!tape.offers(n, 1, PLATE_TEXT)) {
            return NONE;
        }
        tape.open(n);
        int fault = draft.read(tape);
        tape.wipe();
        if (fault < 0) {
            return fault;
        }
        now.beginOn(draft);
        refresh();
        return now.plate.size;
    }

    public int orders(int n) {
        if (!tape.offers(n, 1, ORDERS_TEXT)) {
            return NONE;
        }
        tape.open(n);
        int fault = script.read(tape);
        tape.wipe();
        if (fault < 0) {
            return fault;
        }
        int done = 0;
        while (done < script.size && perform(done)) {
            done++;
        }
        return done;
    }

    private boolean perform(int i) {
        int first = script.first[i];
        int second = script.second[i];
        switch (script.kind[i]) {
            case PUT:
                return putFinger(first, second) >= 0;
            case TAKE:
                return takeFinger(first) >= 0;
            case TREAD:
                return chooseTread(first, second) >= 0;
            default:
                return moveCentre(first, second) >= 0;
        }
    }

    public int loads(int n) {
        if (!tape.offers(n, 1, LOADS_TEXT)) {
            return NONE;
        }
        tape.open(n);
        int answer = readLoads();
        tape.wipe();
        if (answer < 0) {
            return answer;
        }
        System.arraycopy(draftLoads, 0, now.pushes, 0, 3 * answer);
        now.loaded = answer;
        return answer;
    }

    private int readLoads() {
        for (int i = 0; i < MOST_LOADS; i++) {
            int fault = readLoad(3 * i);
            if (fault < 0) {
                return fault;
            }
            if (tape.ended()) {
                return i + 1;
            }
            if (!tape.accept(SEMICOLON)) {
                return tape.fault(FAULT_SIGN);
            }
        }
        return tape.fault(FAULT_MANY);
    }

    private int readLoad(int from) {
        for (int i = 0; i < 3; i++) {
            if (i > 0 && !tape.accept(COMMA)) {
                return tape.fault(FAULT_SIGN);
            }
            boolean below = tape.accept(MINUS);
            int number = tape.number(3);
            if (number < 0) {
                return number;
            }
            draftLoads[from + i] = below ? -number : number;
        }
        return 0;
    }

    public int check(int n) {
        if (!tape.offers(n, 0, CHECK_TEXT)) {
            return NO_SUCH_TEXT;
        }
        int wrong = firstWrong(n);
        tape.wipe();
        return wrong;
    }

    private int firstWrong(int n) {
        for (int i = 0; i < n; i++) {
            int f = i / 2;
            if (f >= now.fingers) {
                return i;
            }
            int want = i % 2 == 0 ? now.edges[f] : now.steps[f];
            if (tape.bytes[i] != want) {
                return i;
            }
        }
        return NONE;
    }

    // ---- what is done by hand ----

    public int put(int edge, int k) {
        return putFinger(edge, k);
    }

    private int putFinger(int edge, int k) {
        if (!now.plate.hasPlace(edge, k)) {
            return NONE;
        }
        if (now.fingerAt(edge, k) >= 0) {
            return OCCUPIED;
        }
        if (now.fingers >= MOST_FINGERS) {
            return FULL;
        }
        int number = now.fingers;
        now.edges[number] = edge;
        now.steps[number] = k;
        now.fingers = number + 1;
        settle(PUT);
        return number;
    }

    public int take(int finger) {
        return takeFinger(finger);
    }

    private int takeFinger(int finger) {
        if (finger < 0 || finger >= now.fingers) {
            return NONE;
        }
        for (int i = finger + 1; i < now.fingers; i++) {
            now.edges[i - 1] = now.edges[i];
            now.steps[i - 1] = now.steps[i];
        }
        now.fingers--;
        settle(TAKE);
        return now.fingers;
    }

    public int tread(int m, int q) {
        return chooseTread(m, q);
    }

    private int chooseTread(int m, int q) {
        if (m < 0 || m > 3 || q < 1 || q > 3) {
            return NONE;
        }
        now.m = m;
        now.q = q;
        settle(TREAD);
        return 0;
    }

    public int centre(int x, int y) {
        return moveCentre(x, y);
    }

    private int moveCentre(int x, int y) {
        if (x < 0 || x > LAST_PLACE || y < 0 || y > LAST_PLACE) {
            return NONE;
        }
        now.centreX = x;
        now.centreY = y;
        settle(CENTRE);
        return 0;
    }

    public int turn() {
        now.plate.quarterRound();
        int x = now.centreX;
        now.centreX = LAST_PLACE - now.centreY;
        now.centreY = x;
        settle(TURN);
        return bit(firm);
    }

    public int past(int k, int what) {
        if (k < 0 || k >= now.pasts || what < 0 || what > 3) {
            return NONE;
        }
        return now.history[4 * k + what];
    }

    public boolean seed(int x) {
        if (x < 0 || x > MOST_SEED) {
            return false;
        }
        now.seed = x;
        return true;
    }

    public int keep() {
        kept.copyOf(now);
        wasKept = true;
        return now.fingers;
    }

    public boolean undo() {
        if (!wasKept) {
            return false;
        }
        now.copyOf(kept);
        refresh();
        return true;
    }

    private void settle(int kind) {
        refresh();
        now.remember(kind, bit(firm), rank);
    }

    private void refresh() {
        grip.clear();
        for (int i = 0; i < now.fingers; i++) {
            now.press(grip, i, now.edges[i], now.steps[i], now.m, now.q);
        }
        grip.pair();
        rank = grip.height();
        firm = grip.spans(grip.everyone());
        trials.forget();
    }

    // ---- the plate ----

    public int count(int what) {
        switch (what) {
            case 0:
                return now.plate.size;
            case 1:
                return now.plate.twiceArea();
            case 2:
                return now.fingers;
            case 3:
                return grip.size;
            case 4:
                return rank;
            case 5:
                return bit(firm);
            case 6:
                return now.plate.places;
            case 7:
                return now.m;
            case 8:
                return now.q;
            case 9:
                return now.centreX;
            case 10:
                return now.centreY;
            case 11:
                return firm ? neededFingers() : ABSENT;
            case 12:
                return firm ? Integer.bitCount(leastFingers()) : ABSENT;
            case 13:
                return firm ? leastFingers() : ABSENT;
            case 14:
                return tape.size;
            case 15:
                return now.seed;
            case 16:
                return oppositeCouples();
            default:
                return NONE;
        }
    }

    public int corner(int i, int what) {
        if (i < 0 || i >= now.plate.size) {
            return NONE;
        }
        if (what == 0) {
            return now.plate.xs[i];
        }
        return what == 1 ? now.plate.ys[i] : NONE;
    }

    public long edge(int e, int what) {
        if (e < 0 || e >= now.plate.size) {
            return NO_NUMBER;
        }
        Plate plate = now.plate;
        switch (what) {
            case 0:
                return plate.alongX[e];
            case 1:
                return plate.alongY[e];
            case 2:
                return -plate.alongY[e];
            case 3:
                return plate.alongX[e];
            case 4:
                return plate.lengths[e];
            default:
                return NO_NUMBER;
        }
    }

    public int place(int i, int what) {
        Plate plate = now.plate;
        if (i < 0 || i >= plate.places) {
            return NONE;
        }
        int e = plate.placeEdge[i];
        int k = plate.placeStep[i];
        switch (what) {
            case 0:
                return e;
            case 1:
                return k;
            case 2:
                return plate.stepX(e, k);
            case 3:
                return plate.stepY(e, k);
            case 4:
                int there = now.fingerAt(e, k);
                return there < 0 ? ABSENT : there;
            case 5:
                return oppositeFrom(i, 0);
            case 6:
                return firstOpposite(i);
            default:
                return NONE;
        }
    }

    public int inside(int x, int y) {
        if (Math.max(x, y) > MOST_INSIDE || Math.min(x, y) < -MOST_INSIDE) {
            return NONE;
        }
        return now.plate.whereIs(x, y);
    }

    public int opposite(int i, int j) {
        int places = now.plate.places;
        if (i < 0 || i >= places || j < 0 || j >= places) {
            return NONE;
        }
        return bit(now.face(i, j));
    }

    private int oppositeCouples() {
        int couples = 0;
        for (int i = 0; i < now.plate.places; i++) {
            couples += oppositeFrom(i, i + 1);
        }
        return couples;
    }

    private int oppositeFrom(int i, int from) {
        int number = 0;
        for (int j = from; j < now.plate.places; j++) {
            if (now.face(i, j)) {
                number++;
            }
        }
        return number;
    }

    private int firstOpposite(int i) {
        for (int j = 0; j < now.plate.places; j++) {
            if (now.face(i, j)) {
                return j;
            }
        }
        return ABSENT;
    }

    // ---- fingers and wrenches ----

    public int finger(int i, int what) {
        if (i < 0 || i >= now.fingers) {
            return NONE;
        }
        int e = now.edges[i];
        int k = now.steps[i];
        switch (what) {
            case 0:
                return e;
            case 1:
                return k;
            case 2:
                return now.plate.stepX(e, k);
            case 3:
                return now.plate.stepY(e, k);
            case 4:
                return now.forces();
            case 5:
                return bit(firmBy(allFingers() & ~(1 << i)));
            default:
                return NONE;
        }
    }

    public long wrench(int j, int what) {
        if (j < 0 || j >= grip.size) {
            return NO_NUMBER;
        }
        switch (what) {
            case 0:
                return grip.fx[j];
            case 1:
                return grip.fy[j];
            case 2:
                return grip.t[j];
            case 3:
                return grip.owner[j];
            default:
                return NO_NUMBER;
        }
    }

    private int allFingers() {
        return (1 << now.fingers) - 1;
    }

    private boolean firmBy(int fingers) {
        return grip.spans(grip.ownedBy(fingers));
    }

    private int neededFingers() {
        int needed = 0;
        for (int i = 0; i < now.fingers; i++) {
            if (!firmBy(allFingers() & ~(1 << i))) {
                needed |= 1 << i;
            }
        }
        return needed;
    }

    private int leastFingers() {
        for (int many = 1; many <= now.fingers; many++) {
            for (int set = 1; set <= allFingers(); set++) {
                if (Integer.bitCount(set) == many && firmBy(set)) {
                    return set;
                }
            }
        }
        return 0;
    }

    public int safe(int k) {
        if (k < 0 || k > MOST_FINGERS) {
            return NONE;
        }
        int left = Math.max(0, now.fingers - k);
        for (int set = 0; set <= allFingers(); set++) {
            if (Integer.bitCount(set) == left && !firmBy(set)) {
                return 0;
            }
        }
        return 1;
    }

    public int slide(int i, int what) {
        if (i < 0 || i >= now.fingers || what < 0 || what > 1) {
            return NONE;
        }
        if (!firm) {
            return ABSENT;
        }
        return trials.farthest(now, i, what == 0 ? -1 : 1);
    }

    public int rough(int what) {
        if (what < 0 || what > 1) {
            return NONE;
        }
        int i = trials.leastTread(now);
        if (i < 0 || i >= ROUGH_M.length) {
            return ABSENT;
        }
        return what == 0 ? ROUGH_M[i] : ROUGH_Q[i];
    }

    public long best(int what) {
        if (what < 0 || what > 3) {
            return NO_NUMBER;
        }
        trials.seekOneMore(now);
        int i = trials.further;
        if (i < 0 || i >= now.plate.places) {
            return ABSENT;
        }
        switch (what) {
            case 0:
                return now.plate.placeEdge[i];
            case 1:
                return now.plate.placeStep[i];
            case 2:
                return trials.furtherWeakest.above;
            default:
                return trials.furtherWeakest.below;
        }
    }

    public long two(int what) {
        if (what < 0 || what > 4) {
            return NO_NUMBER;
        }
        trials.seekCouple(now);
        if (what == 0) {
            return trials.couples;
        }
        if (trials.couples == 0) {
            return ABSENT;
        }
        switch (what) {
            case 1:
                return trials.one;
            case 2:
                return trials.other;
            case 3:
                return trials.coupleWeakest.above;
            default:
                return trials.coupleWeakest.below;
        }
    }

    // ---- firm or free ----

    public long free(int what) {
        if (firm || what < 0 || what > 2) {
            return NO_NUMBER;
        }
        release.seek(grip, rank);
        if (what == 0) {
            return release.x;
        }
        return what == 1 ? release.y : release.t;
    }

    public long frees(int k, int what) {
        if (k < -1 || what < 0 || what > 2) {
            return NO_NUMBER;
        }
        int number = 0;
        if (!firm && rank == 3) {
            release.seek(grip, rank);
            number = release.size;
        }
        if (k == -1) {
            return what == 0 ? number : NO_NUMBER;
        }
        if (k >= number) {
            return NO_NUMBER;
        }
        if (what == 0) {
            return release.xs[k];
        }
        return what == 1 ? release.ys[k] : release.ts[k];
    }

    public long weak(int what) {
        if (!firm || what < 0 || what > 6) {
            return NO_NUMBER;
        }
        sides.survey(grip);
        switch (what) {
            case 0:
                return sides.weakest.above;
            case 1:
                return sides.weakest.below;
            case 2:
                return sides.x;
            case 3:
                return sides.y;
            case 4:
                return sides.t;
            case 5:
                return sides.offset;
            default:
                return sides.size;
        }
    }

    public long proof(int what) {
        if (!firm || what < 0 || what > 5) {
            return NO_NUMBER;
        }
        int set = grip.fewest();
        if (what == 0) {
            return Integer.bitCount(set);
        }
        if (what == 1) {
            return set;
        }
        return Integer.bitCount(set) == 4 ? grip.multiple(set, what - 2) : ABSENT;
    }

    // ---- pushes ----

    public int held(int fx, int fy, int t) {
        if (!isPush(fx, fy, t)) {
            return NONE;
        }
        return bit(hold.seek(grip, fx, fy, t));
    }

    public long effort(int fx, int fy, int t, int what) {
        if (!isPush(fx, fy, t) || what < 0 || what > 1) {
            return NO_NUMBER;
        }
        if (!hold.seek(grip, fx, fy, t)) {
            return NO_NUMBER;
        }
        return what == 0 ? hold.effort.above : hold.effort.below;
    }

    public long holder(int fx, int fy, int t, int k, int what) {
        if (!isPush(fx, fy, t) || k < -1 || what < 0 || what > 2) {
            return NO_NUMBER;
        }
        if (!hold.seek(grip, fx, fy, t) || k >= hold.size) {
            return NO_NUMBER;
        }
        if (k == -1) {
            return what == 0 ? hold.size : NO_NUMBER;
        }
        if (what == 0) {
            return hold.which[k];
        }
        hold.share.become(hold.parts[k], hold.whole);
        return what == 1 ? hold.share.above : hold.share.below;
    }

    public long load(int what) {
        switch (what) {
            case 0:
                return now.loaded;
            case 1:
                return heldLoads();
            case 2:
            case 3:
                return greatestLoad(what == 2);
            case 4:
            case 5:
                return allLoads(what == 4);
            default:
                return NO_NUMBER;
        }
    }

    private boolean bearsLoad(int i) {
        return hold.seek(grip, now.pushes[3 * i], now.pushes[3 * i + 1], now.pushes[3 * i + 2]);
    }

    private int heldLoads() {
        int set = 0;
        for (int i = 0; i < now.loaded; i++) {
            if (bearsLoad(i)) {
                set |= 1 << i;
            }
        }
        return set;
    }

    private long greatestLoad(boolean above) {
        long most = ABSENT;
        long line = 1;
        for (int i = 0; i < now.loaded; i++) {
            if (bearsLoad(i) && hold.effort.isMoreThan(most, line)) {
                most = hold.effort.above;
                line = hold.effort.below;
            }
        }
        if (most < 0) {
            return ABSENT;
        }
        return above ? most : line;
    }

    private long allLoads(boolean above) {
        long fx = 0;
        long fy = 0;
        long t = 0;
        for (int i = 0; i < now.loaded; i++) {
            fx += now.pushes[3 * i];
            fy += now.pushes[3 * i + 1];
            t += now.pushes[3 * i + 2];
        }
        if (!hold.seek(grip, fx, fy, t)) {
            return ABSENT;
        }
        return above ? hold.effort.above : hold.effort.below;
    }

    public long weight(int gx, int gy, int what) {
        if (Math.max(gx, gy) > MOST_WEIGHT || Math.min(gx, gy) < -MOST_WEIGHT || what < 0 || what > 1) {
            return NO_NUMBER;
        }
        if (!bearsWeight(gx, gy)) {
            return NO_NUMBER;
        }
        return what == 0 ? hold.effort.above : hold.effort.below;
    }

    // the middle is a fraction: the push is held that many times greater, the effort then made smaller
    private boolean bearsWeight(int gx, int gy) {
        long line = 3L * now.plate.twiceArea();
        long x = now.plate.middle(true) - line * now.centreX;
        long y = now.plate.middle(false) - line * now.centreY;
        if (!hold.seek(grip, gx * line, gy * line, x * gy - y * gx)) {
            return false;
        }
        hold.effort.become(hold.effort.above, hold.effort.below * line);
        return true;
    }

    public int tilt(int limit) {
        if (limit < 0 || limit > MOST_LIMIT) {
            return NONE;
        }
        int set = 0;
        for (int i = 0; i < TILT_X.length && i < TILT_Y.length; i++) {
            if (bearsWeight(TILT_X[i], TILT_Y[i]) && !hold.effort.isMoreThan(limit, 1)) {
                set |= 1 << i;
            }
        }
        return set;
    }

    public int storm(int n, int limit) {
        if (n < 1 || n > MOST_STORM || limit < 0 || limit > MOST_LIMIT) {
            return NONE;
        }
        int stood = 0;
        int x = now.seed;
        for (int i = 0; i < n; i++) {
            x = nextNumber(x);
            int fx = x % 21 - 10;
            x = nextNumber(x);
            int fy = x % 21 - 10;
            x = nextNumber(x);
            int t = x % 101 - 50;
            if (hold.seek(grip, fx, fy, t) && !hold.effort.isMoreThan(limit, 1)) {
                stood++;
            }
        }
        return stood;
    }

    // ---- small helps ----

    private static int nextNumber(int x) {
        return (25173 * x + 13849) & MOST_SEED;
    }

    private static int bit(boolean so) {
        return so ? 1 : 0;
    }

    private static boolean isPush(int fx, int fy, int t) {
        return Math.max(fx, Math.max(fy, t)) <= MOST_PUSH && Math.min(fx, Math.min(fy, t)) >= -MOST_PUSH;
    }

    private static long divisor(long a, long b) {
        long high = a;
        long low = b;
        for (int i = 0; i < 200 && low != 0; i++) {
            long rest = high % low;
            high = low;
            low = rest;
        }
        return high < 0 ? -high : high;
    }

    /** A number of at least 0 in lowest terms. */
    private static final class Fraction {
        private long above = 0;
        private long below = 1;

        void become(long a, long b) {
            long g = divisor(a, b);
            above = g > 1 ? a / g : a;
            below = g > 1 ? b / g : b;
        }

        boolean isMoreThan(long a, long b) {
            return above * b > a * below;
        }
    }

    /** The bytes that were fed, and how far a text among them has been read. */
    private static final class Tape {
        private final int[] bytes = new int[MOST_BYTES];
        private int size = 0;
        private int at = 0;
        private int end = 0;

        void append(int word) {
            for (int shift = 24; shift >= 0 && size < bytes.length; shift -= 8) {
                bytes[size] = (word >> shift) & 255;
                size++;
            }
        }

        boolean offers(int n, int least, int most) {
            return n >= least && n <= most && n <= size;
        }

        void open(int n) {
            at = 0;
            end = Math.min(n, size);
        }

        void wipe() {
            size = 0;
            at = 0;
            end = 0;
        }

        boolean ended() {
            return at >= end;
        }

        int sign(int i) {
            return i >= 0 && i < end && i < bytes.length ? bytes[i] : NO_SIGN;
        }

        boolean isDigit() {
            int sign = sign(at);
            return sign >= ZERO && sign <= NINE;
        }

        boolean accept(int sign) {
            if (sign(at) != sign) {
                return false;
            }
            at++;
            return true;
        }

        int fault(int number) {
            return -1000 * number - at;
        }

        // the number, or a FAULT, which is below 0
        int number(int digits) {
            if (!isDigit()) {
                return fault(FAULT_SIGN);
            }
            int value = 0;
            for (int i = 0; i < digits && isDigit(); i++) {
                value = 10 * value + sign(at) - ZERO;
                at++;
            }
            return isDigit() ? fault(FAULT_DIGIT) : value;
        }

        int wordLength() {
            int length = 0;
            while (length < ORDERS_TEXT && sign(at + length) >= LETTER_A && sign(at + length) <= LETTER_Z) {
                length++;
            }
            return length;
        }

        // the whole word counts, so that "putt" is none of ours
        boolean acceptWord(String word) {
            if (wordLength() != word.length()) {
                return false;
            }
            for (int i = 0; i < word.length(); i++) {
                if (sign(at + i) != word.charAt(i)) {
                    return false;
                }
            }
            at += word.length();
            return true;
        }
    }

    /** ORDERS that have been read and are still to be done. */
    private static final class Orders {
        private final int[] kind = new int[MOST_CLAUSES];
        private final int[] first = new int[MOST_CLAUSES];
        private final int[] second = new int[MOST_CLAUSES];
        private int size = 0;

        // 0, or a FAULT
        int read(Tape tape) {
            size = 0;
            for (int i = 0; i < MOST_CLAUSES; i++) {
                int fault = readClause(tape, i);
                if (fault < 0) {
                    return fault;
                }
                size = i + 1;
                if (tape.ended()) {
                    return 0;
                }
                if (!tape.accept(SEMICOLON)) {
                    return tape.fault(FAULT_SIGN);
                }
            }
            return tape.fault(FAULT_MANY);
        }

        private int readClause(Tape tape, int i) {
            kind[i] = readWord(tape);
            if (kind[i] < 0) {
                return tape.fault(FAULT_SIGN);
            }
            first[i] = readNumber(tape);
            if (first[i] < 0) {
                return first[i];
            }
            second[i] = kind[i] == TAKE ? 0 : readNumber(tape);
            return Math.min(0, second[i]);
        }

        private static int readWord(Tape tape) {
            if (tape.acceptWord("put")) {
                return PUT;
            }
            if (tape.acceptWord("take")) {
                return TAKE;
            }
            if (tape.acceptWord("tread")) {
                return TREAD;
            }
            return tape.acceptWord("centre") ? CENTRE : NONE;
        }

        private static int readNumber(Tape tape) {
            return tape.accept(BLANK) ? tape.number(2) : tape.fault(FAULT_SIGN);
        }
    }

    /** CORNERS, with EDGES and PLACES that follow from them. */
    private static final class Plate {
        private final int[] xs = new int[MOST_CORNERS];
        private final int[] ys = new int[MOST_CORNERS];
        private final int[] alongX = new int[MOST_CORNERS];
        private final int[] alongY = new int[MOST_CORNERS];
        private final int[] lengths = new int[MOST_CORNERS];
        private final int[] placeEdge = new int[MOST_PLACES];
        private final int[] placeStep = new int[MOST_PLACES];
        private int size = 4;
        private int places = 0;

        Plate() {
            xs[1] = 4;
            xs[2] = 4;
            ys[2] = 4;
            ys[3] = 4;
            derive();
        }

        void copyOf(Plate from) {
            size = from.size;
            System.arraycopy(from.xs, 0, xs, 0, MOST_CORNERS);
            System.arraycopy(from.ys, 0, ys, 0, MOST_CORNERS);
            derive();
        }

        void derive() {
            places = 0;
            for (int e = 0; e < size; e++) {
                int dx = xs[next(e)] - xs[e];
                int dy = ys[next(e)] - ys[e];
                int g = (int) divisor(dx, dy);
                lengths[e] = g;
                alongX[e] = g > 1 ? dx / g : dx;
                alongY[e] = g > 1 ? dy / g : dy;
                for (int k = 1; k < g && places < MOST_PLACES; k++) {
                    placeEdge[places] = e;
                    placeStep[places] = k;
                    places++;
                }
            }
        }

        int next(int i) {
            return i + 1 < size ? i + 1 : 0;
        }

        boolean hasPlace(int e, int k) {
            return e >= 0 && e < size && k >= 1 && k < lengths[e];
        }

        int stepX(int e, int k) {
            return xs[e] + k * alongX[e];
        }

        int stepY(int e, int k) {
            return ys[e] + k * alongY[e];
        }

        void quarterRound() {
            for (int i = 0; i < size; i++) {
                int x = xs[i];
                xs[i] = LAST_PLACE - ys[i];
                ys[i] = x;
            }
            derive();
        }

        // 0, or a FAULT; what was here before is lost either way
        int read(Tape tape) {
            size = 0;
            for (int i = 0; i < MOST_CORNERS; i++) {
                int fault = readCorner(tape, i);
                if (fault < 0) {
                    return fault;
                }
                size = i + 1;
                if (tape.ended()) {
                    return stands() ? 0 : tape.fault(FAULT_PLATE);
                }
                if (!tape.accept(SEMICOLON)) {
                    return tape.fault(FAULT_SIGN);
                }
            }
            return tape.fault(tape.isDigit() ? FAULT_MANY : FAULT_SIGN);
        }

        // a second digit is no FAULT 2 here: it stands where a comma or semicolon is due
        private int readCorner(Tape tape, int i) {
            if (!tape.isDigit()) {
                return tape.fault(FAULT_SIGN);
            }
            xs[i] = tape.sign(tape.at) - ZERO;
            tape.at++;
            if (!tape.accept(COMMA) || !tape.isDigit()) {
                return tape.fault(FAULT_SIGN);
            }
            ys[i] = tape.sign(tape.at) - ZERO;
            tape.at++;
            return 0;
        }

        boolean stands() {
            if (size < 3 || twiceArea() <= 0) {
                return false;
            }
            for (int i = 0; i < size; i++) {
                if (bend(i, next(i), next(next(i))) == 0) {
                    return false;
                }
                for (int j = i + 2; j < size; j++) {
                    if (next(j) != i && meet(i, j)) {
                        return false;
                    }
                }
            }
            return true;
        }

        private int bend(int a, int b, int c) {
            return turning(xs[b] - xs[a], ys[b] - ys[a], xs[c] - xs[a], ys[c] - ys[a]);
        }

        private static int turning(int ax, int ay, int bx, int by) {
            return ax * by - ay * bx;
        }

        private boolean meet(int e, int f) {
            int a = Integer.signum(bend(e, next(e), f));
            int b = Integer.signum(bend(e, next(e), next(f)));
            int c = Integer.signum(bend(f, next(f), e));
            int d = Integer.signum(bend(f, next(f), next(e)));
            if (a * b < 0 && c * d < 0) {
                return true;
            }
            return lies(e, xs[f], ys[f]) || lies(e, xs[next(f)], ys[next(f)])
                || lies(f, xs[e], ys[e]) || lies(f, xs[next(e)], ys[next(e)]);
        }

        private boolean lies(int e, int x, int y) {
            int f = next(e);
            return turning(xs[f] - xs[e], ys[f] - ys[e], x - xs[e], y - ys[e]) == 0
                && x >= Math.min(xs[e], xs[f]) && x <= Math.max(xs[e], xs[f])
                && y >= Math.min(ys[e], ys[f]) && y <= Math.max(ys[e], ys[f]);
        }

        int twiceArea() {
            int area = 0;
            for (int i = 0; i < size; i++) {
                area += turning(xs[i], ys[i], xs[next(i)], ys[next(i)]);
            }
            return area;
        }

        // the middle's x or y, three times twice the area times
        long middle(boolean ofX) {
            int[] along = ofX ? xs : ys;
            long sum = 0;
            for (int i = 0; i < size; i++) {
                int j = next(i);
                sum += (long) (along[i] + along[j]) * turning(xs[i], ys[i], xs[j], ys[j]);
            }
            return sum;
        }

        // 0 out, 1 within, 2 on an EDGE
        int whereIs(int x, int y) {
            int rounds = 0;
            for (int e = 0; e < size; e++) {
                if (lies(e, x, y)) {
                    return 2;
                }
                int f = next(e);
                int side = turning(xs[f] - xs[e], ys[f] - ys[e], x - xs[e], y - ys[e]);
                if (ys[e] <= y && ys[f] > y && side > 0) {
                    rounds++;
                } else if (ys[e] > y && ys[f] <= y && side < 0) {
                    rounds--;
                }
            }
            return rounds == 0 ? 0 : 1;
        }
    }

    /** All that is KEPT and UNDONE. */
    private static final class State {
        private final Plate plate = new Plate();
        private final int[] edges = new int[MOST_FINGERS];
        private final int[] steps = new int[MOST_FINGERS];
        private final int[] history = new int[4 * MOST_PAST];
        private final int[] pushes = new int[3 * MOST_LOADS];
        private int fingers = 0;
        private int m = 1;
        private int q = 1;
        private int centreX = 2;
        private int centreY = 2;
        private int seed = 1;
        private int pasts = 0;
        private int loaded = 0;

        void copyOf(State from) {
            plate.copyOf(from.plate);
            System.arraycopy(from.edges, 0, edges, 0, MOST_FINGERS);
            System.arraycopy(from.steps, 0, steps, 0, MOST_FINGERS);
            System.arraycopy(from.history, 0, history, 0, 4 * MOST_PAST);
            System.arraycopy(from.pushes, 0, pushes, 0, 3 * MOST_LOADS);
            fingers = from.fingers;
            m = from.m;
            q = from.q;
            centreX = from.centreX;
            centreY = from.centreY;
            seed = from.seed;
            pasts = from.pasts;
            loaded = from.loaded;
        }

        void beginOn(Plate told) {
            plate.copyOf(told);
            fingers = 0;
            centreX = 2;
            centreY = 2;
            pasts = 0;
        }

        // the latest stands first, so that the oldest falls off the end
        void remember(int kind, int firm, int rank) {
            System.arraycopy(history, 0, history, 4, 4 * (MOST_PAST - 1));
            history[0] = kind;
            history[1] = fingers;
            history[2] = firm;
            history[3] = rank;
            pasts = Math.min(MOST_PAST, pasts + 1);
        }

        int fingerAt(int e, int k) {
            for (int i = 0; i < fingers; i++) {
                if (edges[i] == e && steps[i] == k) {
                    return i;
                }
            }
            return NONE;
        }

        int forces() {
            return m == 0 ? 1 : 2;
        }

        // the tread is told, since ROUGH asks by others than the one that is set
        void press(Bundle bundle, int owner, int e, int k, int along, int inward) {
            if (!plate.hasPlace(e, k)) {
                return;
            }
            int x = plate.stepX(e, k) - centreX;
            int y = plate.stepY(e, k) - centreY;
            for (int sign = 1; sign >= (along == 0 ? 1 : -1); sign -= 2) {
                int fx = -inward * plate.alongY[e] + sign * along * plate.alongX[e];
                int fy = inward * plate.alongX[e] + sign * along * plate.alongY[e];
                int g = (int) divisor(fx, fy);
                if (g > 1) {
                    fx /= g;
                    fy /= g;
                }
                bundle.add(owner, fx, fy, x * fy - y * fx);
            }
        }

        boolean face(int i, int j) {
            return i != j && sees(i, j) && sees(j, i);
        }

        private boolean sees(int i, int j) {
            int e = plate.placeEdge[i];
            int f = plate.placeEdge[j];
            int dx = plate.stepX(f, plate.placeStep[j]) - plate.stepX(e, plate.placeStep[i]);
            int dy = plate.stepY(f, plate.placeStep[j]) - plate.stepY(e, plate.placeStep[i]);
            int inward = dy * plate.alongX[e] - dx * plate.alongY[e];
            int along = dx * plate.alongX[e] + dy * plate.alongY[e];
            return inward >= 0 && q * Math.abs(along) <= m * inward;
        }
    }

    /**
     * WRENCHES, with the cross product of each couple and, as bits, which of them lie above and below its plane:
     * by these every question of which sets are FIRM is one of bits alone.
     */
    private static final class Bundle {
        private final long[] fx = new long[MOST_WRENCHES];
        private final long[] fy = new long[MOST_WRENCHES];
        private final long[] t = new long[MOST_WRENCHES];
        private final int[] owner = new int[MOST_WRENCHES];
        private final long[] crossX = new long[MOST_COUPLES];
        private final long[] crossY = new long[MOST_COUPLES];
        private final long[] crossT = new long[MOST_COUPLES];
        private final int[] above = new int[MOST_COUPLES];
        private final int[] below = new int[MOST_COUPLES];
        private int size = 0;

        void clear() {
            size = 0;
        }

        void add(int finger, int x, int y, int turning) {
            if (size >= MOST_WRENCHES) {
                return;
            }
            owner[size] = finger;
            fx[size] = x;
            fy[size] = y;
            t[size] = turning;
            size++;
        }

        // i is below j
        static int couple(int i, int j) {
            return j * (j - 1) / 2 + i;
        }

        int everyone() {
            return (1 << size) - 1;
        }

        int ownedBy(int fingers) {
            int set = 0;
            for (int i = 0; i < size; i++) {
                if ((fingers >> owner[i] & 1) == 1) {
                    set |= 1 << i;
                }
            }
            return set;
        }

        void pair() {
            for (int i = 0; i < size; i++) {
                for (int j = i + 1; j < size; j++) {
                    int c = couple(i, j);
                    crossX[c] = fy[i] * t[j] - t[i] * fy[j];
                    crossY[c] = t[i] * fx[j] - fx[i] * t[j];
                    crossT[c] = fx[i] * fy[j] - fy[i] * fx[j];
                    sort(c);
                }
            }
        }

        private void sort(int c) {
            long x = crossX[c];
            long y = crossY[c];
            long turning = crossT[c];
            int over = 0;
            int under = 0;
            for (int k = 0; k < size; k++) {
                long makes = fx[k] * x + fy[k] * y + t[k] * turning;
                if (makes > 0) {
                    over |= 1 << k;
                } else if (makes < 0) {
                    under |= 1 << k;
                }
            }
            above[c] = over;
            below[c] = under;
        }

        long volume(int k, int c) {
            return fx[k] * crossX[c] + fy[k] * crossY[c] + t[k] * crossT[c];
        }

        boolean isPlane(int c) {
            return crossX[c] != 0 || crossY[c] != 0 || crossT[c] != 0;
        }

        // RANK
        int height() {
            int height = Math.min(1, size);
            for (int i = 0; i < size; i++) {
                for (int j = i + 1; j < size; j++) {
                    int c = couple(i, j);
                    if (isPlane(c)) {
                        height = Math.max(height, (above[c] | below[c]) == 0 ? 2 : 3);
                    }
                }
            }
            return height;
        }

        // FIRM: no couple's plane has all of the set on one side; with RANK below 3 a plane has none beside it
        boolean spans(int set) {
            boolean some = false;
            for (int i = 0; i < size; i++) {
                if ((set >> i & 1) == 0) {
                    continue;
                }
                for (int j = i + 1; j < size; j++) {
                    int c = couple(i, j);
                    if ((set >> j & 1) == 0 || !isPlane(c)) {
                        continue;
                    }
                    if ((above[c] & set) == 0 || (below[c] & set) == 0) {
                        return false;
                    }
                    some = true;
                }
            }
            return some;
        }

        // PROOF: a set that is FIRM has one of at most six in it
        int fewest() {
            for (int many = 4; many <= 6; many++) {
                for (int set = 0; set <= everyone(); set++) {
                    if (Integer.bitCount(set) == many && spans(set)) {
                        return set;
                    }
                }
            }
            return 0;
        }

        // of four that are FIRM the j-th one's multiple: what the other three span, by all four's divisor
        long multiple(int set, int j) {
            long common = 0;
            long mine = 0;
            for (int i = 0; i < 4; i++) {
                long span = Math.abs(spanWithout(set, i));
                common = divisor(common, span);
                mine = i == j ? span : mine;
            }
            return common > 1 ? mine / common : mine;
        }

        private long spanWithout(int set, int j) {
            int a = -1;
            int b = -1;
            int c = -1;
            int seen = 0;
            for (int i = 0; i < size; i++) {
                if ((set >> i & 1) == 0) {
                    continue;
                }
                if (seen != j) {
                    a = b;
                    b = c;
                    c = i;
                }
                seen++;
            }
            return a < 0 ? 0 : volume(a, couple(b, c));
        }
    }

    /** FREEING PUSHES of WRENCHES that are not FIRM. */
    private static final class Release {
        private final long[] xs = new long[MOST_FREES];
        private final long[] ys = new long[MOST_FREES];
        private final long[] ts = new long[MOST_FREES];
        private int size = 0;
        private long x = 0;
        private long y = 0;
        private long t = 0;
        private long candidateX = 0;
        private long candidateY = 0;
        private long candidateT = 0;

        void seek(Bundle bundle, int rank) {
            size = 0;
            if (rank == 3) {
                seekAll(bundle);
            } else if (rank == 2) {
                seekPlane(bundle);
            } else {
                seekLine(bundle);
            }
        }

        private void seekAll(Bundle bundle) {
            boolean found = false;
            for (int i = 0; i < bundle.size; i++) {
                for (int j = i + 1; j < bundle.size; j++) {
                    int c = Bundle.couple(i, j);
                    if (!bundle.isPlane(c) || bundle.above[c] != 0 && bundle.below[c] != 0) {
                        continue;
                    }
                    lower(bundle, c, bundle.above[c] == 0 ? 1 : -1);
                    if (!found) {
                        choose();
                        found = true;
                    }
                    insert();
                }
            }
        }

        private void seekPlane(Bundle bundle) {
            for (int i = 0; i < bundle.size; i++) {
                for (int j = i + 1; j < bundle.size; j++) {
                    int c = Bundle.couple(i, j);
                    if (bundle.isPlane(c)) {
                        lower(bundle, c, lastSign(bundle, c));
                        choose();
                        return;
                    }
                }
            }
        }

        private static int lastSign(Bundle bundle, int c) {
            long last = bundle.crossT[c];
            if (last == 0) {
                last = bundle.crossY[c];
            }
            if (last == 0) {
                last = bundle.crossX[c];
            }
            return Long.signum(last);
        }

        // all WRENCHES lie on one line through 0, or there are none
        private void seekLine(Bundle bundle) {
            x = 1;
            y = 0;
            t = 0;
            if (bundle.size == 0 || bundle.fx[0] == 0) {
                return;
            }
            long g = divisor(bundle.fx[0], bundle.fy[0]);
            if (g == 0) {
                return;
            }
            x = -bundle.fy[0] * Long.signum(bundle.fx[0]) / g;
            y = Math.abs(bundle.fx[0]) / g;
        }

        private void lower(Bundle bundle, int c, int sign) {
            long g = divisor(bundle.crossX[c], divisor(bundle.crossY[c], bundle.crossT[c]));
            if (g == 0) {
                return;
            }
            candidateX = sign * bundle.crossX[c] / g;
            candidateY = sign * bundle.crossY[c] / g;
            candidateT = sign * bundle.crossT[c] / g;
        }

        private void choose() {
            x = candidateX;
            y = candidateY;
            t = candidateT;
        }

        private int compareWith(int i) {
            if (candidateX != xs[i]) {
                return Long.compare(candidateX, xs[i]);
            }
            return candidateY != ys[i] ? Long.compare(candidateY, ys[i]) : Long.compare(candidateT, ts[i]);
        }

        private void insert() {
            int at = 0;
            while (at < size && compareWith(at) > 0) {
                at++;
            }
            if (size >= MOST_FREES || at < size && compareWith(at) == 0) {
                return;
            }
            for (int i = size; i > at; i--) {
                xs[i] = xs[i - 1];
                ys[i] = ys[i - 1];
                ts[i] = ts[i - 1];
            }
            xs[at] = candidateX;
            ys[at] = candidateY;
            ts[at] = candidateT;
            size++;
        }
    }

    /** SIDES of WRENCHES that are FIRM, and the weak one. */
    private static final class Sides {
        private final Fraction weakest = new Fraction();
        // a SIDE is known by the WRENCHES on it: unlike SIDES never have the same ones
        private final int[] known = new int[MOST_SIDES];
        private int size = 0;
        private long x = 0;
        private long y = 0;
        private long t = 0;
        private long offset = 0;
        private long width = 0;
        private long planeX = 0;
        private long planeY = 0;
        private long planeT = 0;
        private long planeOffset = 0;
        private long planeWidth = 0;

        void survey(Bundle bundle) {
            size = 0;
            for (int i = 0; i < bundle.size; i++) {
                for (int j = i + 1; j < bundle.size; j++) {
                    for (int k = j + 1; k < bundle.size; k++) {
                        consider(bundle, i, j, k);
                    }
                }
            }
            weakest.become(offset, width);
        }

        private void consider(Bundle bundle, int i, int j, int k) {
            int far = Bundle.couple(j, k);
            planeOffset = bundle.volume(i, far);
            if (planeOffset == 0) {
                return;
            }
            int near = Bundle.couple(i, j);
            int across = Bundle.couple(i, k);
            int sign = Long.signum(planeOffset);
            planeX = sign * (bundle.crossX[near] + bundle.crossX[far] - bundle.crossX[across]);
            planeY = sign * (bundle.crossY[near] + bundle.crossY[far] - bundle.crossY[across]);
            planeT = sign * (bundle.crossT[near] + bundle.crossT[far] - bundle.crossT[across]);
            planeOffset = sign * planeOffset;
            int touching = touched(bundle);
            if (touching != 0 && isNew(touching)) {
                note(touching);
            }
        }

        // the WRENCHES on the plane; 0 if one is beyond it
        private int touched(Bundle bundle) {
            int set = 0;
            for (int i = 0; i < bundle.size; i++) {
                long makes = bundle.fx[i] * planeX + bundle.fy[i] * planeY + bundle.t[i] * planeT;
                if (makes > planeOffset) {
                    return 0;
                }
                if (makes == planeOffset) {
                    set |= 1 << i;
                }
            }
            return set;
        }

        private boolean isNew(int touching) {
            for (int i = 0; i < size; i++) {
                if (known[i] == touching) {
                    return false;
                }
            }
            return size < MOST_SIDES;
        }

        private void note(int touching) {
            long g = divisor(planeX, divisor(planeY, planeT));
            if (g == 0) {
                return;
            }
            planeX /= g;
            planeY /= g;
            planeT /= g;
            planeOffset /= g;
            planeWidth = Math.abs(planeX) + Math.abs(planeY) + Math.abs(planeT);
            if (size == 0 || isWeaker()) {
                x = planeX;
                y = planeY;
                t = planeT;
                offset = planeOffset;
                width = planeWidth;
            }
            known[size] = touching;
            size++;
        }

        private boolean isWeaker() {
            long mine = planeOffset * width;
            long least = offset * planeWidth;
            if (mine != least) {
                return mine < least;
            }
            if (planeX != x) {
                return planeX < x;
            }
            return planeY != y ? planeY < y : planeT < t;
        }
    }

    /** EFFORT and HOLDERS of one PUSH: the least of all sets of one, two and three WRENCHES that hold it. */
    private static final class Hold {
        private final Fraction effort = new Fraction();
        private final Fraction share = new Fraction();
        private final int[] which = new int[3];
        private final long[] parts = new long[3];
        private final long[] makes = new long[MOST_COUPLES];
        private int size = 0;
        private long whole = 1;
        private long sum = 0;
        private boolean found = false;
        private long x = 0;
        private long y = 0;
        private long t = 0;

        boolean seek(Bundle bundle, long fx, long fy, long turning) {
            x = -fx;
            y = -fy;
            t = -turning;
            found = false;
            size = 0;
            sum = 0;
            whole = 1;
            if (x == 0 && y == 0 && t == 0) {
                found = true;
            } else {
                seekOnes(bundle);
                seekTwos(bundle);
                seekThrees(bundle);
            }
            if (found) {
                effort.become(sum, whole);
            }
            return found;
        }

        private void seekOnes(Bundle bundle) {
            for (int i = 0; i < bundle.size; i++) {
                long a = bundle.fx[i];
                long b = bundle.fy[i];
                long c = bundle.t[i];
                if (y * c != t * b || t * a != x * c || x * b != y * a) {
                    continue;
                }
                long part = a != 0 ? x : b != 0 ? y : t;
                long line = a != 0 ? a : b != 0 ? b : c;
                if (improves(1, part, 0, 0, line)) {
                    name(i, 0, 0);
                }
            }
        }

        private void seekTwos(Bundle bundle) {
            for (int i = 0; i < bundle.size; i++) {
                for (int j = i + 1; j < bundle.size; j++) {
                    int c = Bundle.couple(i, j);
                    makes[c] = x * bundle.crossX[c] + y * bundle.crossY[c] + t * bundle.crossT[c];
                    if (makes[c] == 0 && bundle.isPlane(c) && improvesByTwo(bundle, i, j)) {
                        name(i, j, 0);
                    }
                }
            }
        }

        // the two numbers stand by any part of the cross product that is not 0
        private boolean improvesByTwo(Bundle bundle, int i, int j) {
            int c = Bundle.couple(i, j);
            long[] fx = bundle.fx;
            long[] fy = bundle.fy;
            long[] turns = bundle.t;
            if (bundle.crossT[c] != 0) {
                return improves(2, x * fy[j] - y * fx[j], fx[i] * y - fy[i] * x, 0, bundle.crossT[c]);
            }
            if (bundle.crossX[c] != 0) {
                return improves(2, y * turns[j] - t * fy[j], fy[i] * t - turns[i] * y, 0, bundle.crossX[c]);
            }
            return improves(2, t * fx[j] - x * turns[j], turns[i] * x - fx[i] * t, 0, bundle.crossY[c]);
        }

        private void seekThrees(Bundle bundle) {
            for (int i = 0; i < bundle.size; i++) {
                for (int j = i + 1; j < bundle.size; j++) {
                    long last = makes[Bundle.couple(i, j)];
                    if (last == 0) {
                        continue;
                    }
                    for (int k = j + 1; k < bundle.size; k++) {
                        int far = Bundle.couple(j, k);
                        long middle = -makes[Bundle.couple(i, k)];
                        if (improves(3, makes[far], middle, last, bundle.volume(i, far))) {
                            name(i, j, k);
                        }
                    }
                }
            }
        }

        // numbers a, b, c by one line; sets come fewest first and in rows, so a like sum never wins
        private boolean improves(int many, long a, long b, long c, long line) {
            int sign = line < 0 ? -1 : 1;
            if (line == 0 || sign * a <= 0 || many > 1 && sign * b <= 0 || many > 2 && sign * c <= 0) {
                return false;
            }
            long total = sign * (a + b + c);
            if (found && total * whole >= sum * (sign * line)) {
                return false;
            }
            found = true;
            size = many;
            parts[0] = sign * a;
            parts[1] = sign * b;
            parts[2] = sign * c;
            whole = sign * line;
            sum = total;
            return true;
        }

        private void name(int i, int j, int k) {
            which[0] = i;
            which[1] = j;
            which[2] = k;
        }
    }

    /** FINGERS tried where they are not, by a bundle of their own. */
    private static final class Trials {
        private final Bundle bundle = new Bundle();
        private final Sides sides = new Sides();
        private final Fraction furtherWeakest = new Fraction();
        private final Fraction coupleWeakest = new Fraction();
        private boolean furtherKnown = false;
        private boolean coupleKnown = false;
        private int further = NONE;
        private int couples = 0;
        private int one = NONE;
        private int other = NONE;

        // what was sought is kept till something changes: these are the dearest questions
        void forget() {
            furtherKnown = false;
            coupleKnown = false;
        }

        private boolean isFirm() {
            bundle.pair();
            return bundle.spans(bundle.everyone());
        }

        void seekOneMore(State state) {
            if (furtherKnown) {
                return;
            }
            furtherKnown = true;
            further = NONE;
            for (int i = 0; i < state.plate.places; i++) {
                int e = state.plate.placeEdge[i];
                int k = state.plate.placeStep[i];
                if (state.fingerAt(e, k) < 0 && isFirmWith(state, e, k)) {
                    sides.survey(bundle);
                    if (further == NONE || isStronger(furtherWeakest)) {
                        further = i;
                        furtherWeakest.become(sides.weakest.above, sides.weakest.below);
                    }
                }
            }
        }

        private boolean isFirmWith(State state, int e, int k) {
            bundle.clear();
            for (int i = 0; i < state.fingers; i++) {
                state.press(bundle, i, state.edges[i], state.steps[i], state.m, state.q);
            }
            state.press(bundle, state.fingers, e, k, state.m, state.q);
            return isFirm();
        }

        private boolean isStronger(Fraction most) {
            return sides.weakest.isMoreThan(most.above, most.below);
        }

        void seekCouple(State state) {
            if (coupleKnown) {
                return;
            }
            coupleKnown = true;
            couples = 0;
            for (int i = 0; i < state.plate.places; i++) {
                for (int j = i + 1; j < state.plate.places; j++) {
                    if (isFirmCouple(state, i, j)) {
                        noteCouple(i, j);
                    }
                }
            }
        }

        private boolean isFirmCouple(State state, int i, int j) {
            bundle.clear();
            Plate plate = state.plate;
            state.press(bundle, 0, plate.placeEdge[i], plate.placeStep[i], state.m, state.q);
            state.press(bundle, 1, plate.placeEdge[j], plate.placeStep[j], state.m, state.q);
            return isFirm();
        }

        private void noteCouple(int i, int j) {
            sides.survey(bundle);
            if (couples == 0 || isStronger(coupleWeakest)) {
                one = i;
                other = j;
                coupleWeakest.become(sides.weakest.above, sides.weakest.below);
            }
            couples++;
        }

        // how far a FINGER gets in a direction (-1, 1)
        int farthest(State state, int finger, int direction) {
            int e = state.edges[finger];
            int k = state.steps[finger];
            for (int i = 0; i < LAST_PLACE; i++) {
                int next = k + direction;
                if (!state.plate.hasPlace(e, next) || state.fingerAt(e, next) >= 0) {
                    return k;
                }
                if (!isFirmMoved(state, finger, next)) {
                    return k;
                }
                k = next;
            }
            return k;
        }

        private boolean isFirmMoved(State state, int finger, int k) {
            bundle.clear();
            for (int i = 0; i < state.fingers; i++) {
                int step = i == finger ? k : state.steps[i];
                state.press(bundle, i, state.edges[i], step, state.m, state.q);
            }
            return isFirm();
        }

        // the number of the least TREAD in ROUGH_M and ROUGH_Q, or NONE
        int leastTread(State state) {
            for (int i = 0; i < ROUGH_M.length && i < ROUGH_Q.length; i++) {
                bundle.clear();
                for (int f = 0; f < state.fingers; f++) {
                    state.press(bundle, f, state.edges[f], state.steps[f], ROUGH_M[i], ROUGH_Q[i]);
                }
                if (isFirm()) {
                    return i;
                }
            }
            return NONE;
        }
    }
}
