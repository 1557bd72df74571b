import java.util.Arrays;

/**
 * Two on a pavement: passages and laws told as texts, runs of them by a seed, tenth by tenth, and
 * what can be asked of them; hats of a film; habits that come of many meetings.
 */
public final class PavementWalk {
    public static final int NONE = -1;

    private static final int NO_SUCH = -2;
    private static final int NO_COST = -100000;
    private static final int TAPE = 500;
    private static final int MOST_TOLD = 3;
    private static final int IMAGES = 3;
    private static final int LENGTHS = 16;
    private static final int WIDTHS = 6;
    private static final int WALKERS = 12;
    private static final int LINES = 40;
    private static final int RULES = 16;
    private static final int TESTS = 4;
    private static final int FRAMES = 8;
    private static final int HATS = 6;
    private static final int HAT_PLACES = 100;
    /** The greatest soon, near and waited, and the greatest cost g. */
    private static final int MANY = 99;
    private static final int ON_WALL = 100;
    private static final int LONG_TIME = 200;
    private static final int SHORT_TIME = 100;
    private static final int TWELFTHS = 12;

    /** What a WALKER does, numbered as does() tells it. */
    private static final int GO = 0;
    private static final int RIGHT = 1;
    private static final int LEFT = 2;
    private static final int HAND = 3;
    private static final int LOT = 4;
    private static final int WAIT = 5;
    private static final int DEEDS = 6;

    /** What a WALKER finds, numbered as finds() tells it; from BLOCKED on it holds or not. */
    private static final int AHEAD = 0;
    private static final int SOON = 1;
    private static final int NEAR = 2;
    private static final int FREE_RIGHT = 3;
    private static final int FREE_LEFT = 4;
    private static final int WAITED = 5;
    private static final int HASTE = 6;
    private static final int CROWD = 7;
    private static final int BLOCKED = 8;
    private static final int FACING = 9;
    private static final int PARTED = 10;
    private static final int FINDS = 11;

    private final Told told = new Told();
    private final Told[] images = new Told[IMAGES];
    private final boolean[] kept = new boolean[IMAGES];
    private final Reader reader = new Reader(told.tape);
    /** The ground and the rules that trials change as they like; the told ones stay as they are. */
    private final Passage ground = new Passage();
    private final Law bylaw = new Law();
    private final Walk trial = new Walk(ground, bylaw);
    private final Chances chances = new Chances(ground, bylaw);
    private final PassageText passageText = new PassageText(reader, ground);
    private final LawText lawText = new LawText(reader, bylaw);

    public PavementWalk() {
        for (int k = 0; k < images.length; k++) {
            images[k] = new Told();
        }
    }

    // The tape and what is told by it

    public int feed(int a, int b, int c, int d, int e) {
        if (told.bytes + 20 > TAPE) {
            return NONE;
        }
        told.append(a);
        told.append(b);
        told.append(c);
        told.append(d);
        told.append(e);
        return told.bytes;
    }

    public int end(int n) {
        if (n < 0 || n > told.bytes) {
            return NONE;
        }
        told.bytes = n;
        return n;
    }

    public int passage(int at) {
        int bytes = told.takeTape();
        int number = slotFor(at, told.passageCount);
        if (number == NO_SUCH) {
            return NO_SUCH;
        }
        boolean sound = passageText.read(bytes);
        told.fault = reader.fault;
        told.place = reader.place;
        if (!sound) {
            return NONE;
        }
        told.keepPassage(number, ground);
        return number;
    }

    public int law(int at) {
        int bytes = told.takeTape();
        int number = slotFor(at, told.lawCount);
        if (number == NO_SUCH) {
            return NO_SUCH;
        }
        boolean sound = lawText.read(bytes);
        told.fault = reader.fault;
        told.place = reader.place;
        if (!sound) {
            return NONE;
        }
        told.keepLaw(number, bylaw);
        return number;
    }

    /** The number that a text told at 'at' gets, if there are so many; NO_SUCH: it can't be. */
    private static int slotFor(int at, int count) {
        if (at == NONE) {
            return count < MOST_TOLD ? count : NO_SUCH;
        }
        return at >= 0 && at < count ? at : NO_SUCH;
    }

    public int fault(int what) {
        switch (what) {
            case 0: return told.fault;
            case 1: return told.place;
            default: return NONE;
        }
    }

    public int about(int passage, int what) {
        Passage p = told.passageOf(passage);
        if (p == null) {
            return NONE;
        }
        switch (what) {
            case 0: return p.length;
            case 1: return p.width;
            case 2: return p.walkers;
            case 3: return p.wallCount;
            default: return NONE;
        }
    }

    public int walker(int passage, int walker, int what) {
        Passage p = told.passageOf(passage);
        if (p == null || !p.has(walker)) {
            return NO_SUCH;
        }
        switch (what) {
            case 0: return p.col[walker];
            case 1: return p.row[walker];
            case 2: return p.way[walker] > 0 ? 1 : 0;
            case 3: return p.pace[walker];
            case 4: return p.late[walker];
            case 5: return p.haste[walker];
            case 6: return p.hand[walker];
            case 7: return p.friend[walker];
            default: return NO_SUCH;
        }
    }

    public int rules(int law) {
        Law l = told.lawOf(law);
        return l == null ? NONE : l.rules;
    }

    // The RUN

    public boolean run(int passage, int law, int seed) {
        Passage p = told.passageOf(passage);
        Law l = told.lawOf(law);
        if (p == null || l == null) {
            return false;
        }
        told.ground.copyFrom(p);
        told.bylaw.copyFrom(l);
        told.walk.begin(seed);
        told.walking = true;
        return true;
    }

    public int go(int n) {
        if (!told.walking || n < 0 || n > LONG_TIME) {
            return NONE;
        }
        int moved = 0;
        for (int t = 0; t < n; t++) {
            moved += told.walk.pass();
        }
        return moved;
    }

    public int ran(int walker, int what) {
        if (!told.walking || !told.ground.has(walker)) {
            return NO_SUCH;
        }
        Walk walk = told.walk;
        switch (what) {
            case 0: return walk.col[walker];
            case 1: return walk.row[walker];
            case 2: return walk.arrivedIn[walker];
            case 3: return walk.moves[walker];
            case 4: return walk.sidesteps[walker];
            case 5: return walk.bumps[walker];
            case 6: return walk.waited[walker];
            default: return NO_SUCH;
        }
    }

    public int finds(int walker, int what) {
        if (!told.walking || !told.walk.isThere(walker) || what < 0 || what >= FINDS) {
            return NO_SUCH;
        }
        told.walk.look(walker);
        return told.walk.sight[what];
    }

    public int does(int walker) {
        boolean there = told.walking && told.walk.isThere(walker);
        return there ? told.walk.deed(walker) : NONE;
    }

    public int on(int x, int y) {
        if (!told.walking) {
            return NONE;
        }
        return told.ground.isWall(x, y) ? ON_WALL : told.walk.whoIsOn(x, y);
    }

    public int state(int what) {
        if (!told.walking) {
            return NONE;
        }
        Walk walk = told.walk;
        switch (what) {
            case 0: return walk.tenth;
            case 1: return walk.arrived;
            case 2: return walk.quiet >= Walk.TEN ? 1 : 0;
            case 3: return walk.dances;
            case 4: return walk.lanes();
            case 5: return walk.mixedRows();
            case 6: return walk.lots;
            default: return NONE;
        }
    }

    public int door(int x, int what) {
        if (!told.walking || x < 0 || x > told.ground.length - 2 || what < 0 || what > 2) {
            return NONE;
        }
        return told.walk.doorOf(x, what);
    }

    // What trials tell, each by a SEED from TENTH 0 on

    public int two(int passage, int law, int n, int what) {
        boolean counts = what == 0 || what >= 10 && what < 10 + Chances.DANCES;
        if (!counts || n < 0 || n > Chances.TENTHS || !prepare(passage, law)) {
            return NONE;
        }
        if (ground.walkers != 2) {
            return NONE;
        }
        return chances.parts(n, what == 0 ? 0 : what - 9);
    }

    public int fullest(int passage, int law, int seed, int n) {
        if (!isTime(n, LONG_TIME) || !prepare(passage, law)) {
            return NONE;
        }
        int all = ground.walkers;
        for (int k = 1; k <= all; k++) {
            ground.keepFirst(k, all);
            if (arrivals(seed, n) < k) {
                return k;
            }
        }
        return NONE;
    }

    public int pillar(int passage, int law, int seed, int n) {
        if (!isTime(n, SHORT_TIME) || !prepare(passage, law)) {
            return NONE;
        }
        return bestChange(seed, n, true);
    }

    public int cost(int passage, int law, int seed, int n, int walker) {
        if (!isTime(n, LONG_TIME) || !prepare(passage, law) || !ground.has(walker)) {
            return NO_COST;
        }
        int with = tenthsOfOthers(seed, n, walker);
        ground.drop(walker);
        return with - tenthsOfOthers(seed, n, NONE);
    }

    public int better(int passage, int seed, int n) {
        if (!isTime(n, LONG_TIME)) {
            return NONE;
        }
        int most = NONE;
        int best = NONE;
        for (int law = 0; law < told.lawCount; law++) {
            if (!prepare(passage, law)) {
                return NONE;
            }
            int all = arrivals(seed, n);
            if (all > most) {
                most = all;
                best = law;
            }
        }
        return best;
    }

    public int flow(int passage, int law, int seed, int n) {
        if (!isTime(n, LONG_TIME) || !prepare(passage, law)) {
            return NONE;
        }
        arrivals(seed, n);
        return trial.mostArrivals();
    }

    public int touch(int passage, int law, int seed, int n, int a, int b) {
        if (!isTime(n, LONG_TIME) || !prepare(passage, law)) {
            return NONE;
        }
        if (!ground.has(a) || !ground.has(b) || a == b) {
            return NONE;
        }
        trial.begin(seed);
        for (int t = 0; t < n; t++) {
            if (trial.touches(a, b)) {
                return t;
            }
            trial.pass();
        }
        return NONE;
    }

    public int slack(int passage, int law, int seed, int n, int walker) {
        if (!isTime(n, LONG_TIME) || !prepare(passage, law) || !ground.has(walker)) {
            return NONE;
        }
        for (int late = Walk.LAGS - 1; late >= 0; late--) {
            ground.late[walker] = late;
            if (arrivals(seed, n) == ground.walkers) {
                return late;
            }
        }
        return NONE;
    }

    public int opened(int passage, int law, int seed, int n) {
        if (!isTime(n, SHORT_TIME) || !prepare(passage, law)) {
            return NONE;
        }
        return bestChange(seed, n, false);
    }

    public int fits(int passage, int law, int seed) {
        if (!prepare(passage, law)) {
            return NONE;
        }
        int fitting = 0;
        trial.begin(seed);
        for (int f = 0; f < FRAMES; f++) {
            if (told.film.hats[f] > 0 && areHatsOfTrial(f)) {
                fitting++;
            }
            trial.pass();
        }
        return fitting;
    }

    private static boolean isTime(int n, int most) {
        return n >= 1 && n <= most;
    }

    /** Lays the trial's ground and rules as told: false if there is no such PASSAGE or LAW. */
    private boolean prepare(int passage, int law) {
        Passage p = told.passageOf(passage);
        Law l = told.lawOf(law);
        if (p == null || l == null) {
            return false;
        }
        ground.copyFrom(p);
        bylaw.copyFrom(l);
        return true;
    }

    /** How many ARRIVE in n TENTHS of a new trial. */
    private int arrivals(int seed, int n) {
        trial.begin(seed);
        for (int t = 0; t < n && trial.arrived < ground.walkers; t++) {
            trial.pass();
        }
        return trial.arrived;
    }

    /** The TENTHS till they ARRIVE, of all in a new trial but one, together. */
    private int tenthsOfOthers(int seed, int n, int one) {
        arrivals(seed, n);
        int sum = 0;
        for (int w = 0; w < ground.walkers; w++) {
            if (w != one) {
                sum += trial.arrivedIn[w] == NONE ? n : trial.arrivedIn[w] + 1;
            }
        }
        return sum;
    }

    /** The SQUARE that, with a WALL more (or its WALL gone), lets most ARRIVE, more than as it is. */
    private int bestChange(int seed, int n, boolean closes) {
        int most = arrivals(seed, n);
        int best = NONE;
        // When all ARRIVE nothing can be better, so the search ends there.
        for (int x = 0; x < ground.length && most < ground.walkers; x++) {
            for (int y = 0; y < ground.width && most < ground.walkers; y++) {
                boolean open = !ground.isTaken(x, y);
                if (closes ? !open : !ground.isWall(x, y)) {
                    continue;
                }
                ground.setWall(x, y, closes);
                int all = arrivals(seed, n);
                ground.setWall(x, y, !closes);
                if (all > most) {
                    most = all;
                    best = 100 * x + y;
                }
            }
        }
        return best;
    }

    /** Whether the HATS of a FRAME are just the SQUARES of those who are there in the trial. */
    private boolean areHatsOfTrial(int frame) {
        Film film = told.film;
        for (int h = 0; h < film.hats[frame]; h++) {
            int at = frame * HATS + h;
            if (trial.whoIsOn(film.col[at], film.row[at]) == NONE) {
                return false;
            }
        }
        for (int w = 0; w < ground.walkers; w++) {
            if (trial.isThere(w) && !film.hasHat(frame, trial.col[w], trial.row[w])) {
                return false;
            }
        }
        return true;
    }

    // The FILM

    public int hat(int frame, int x, int y) {
        boolean inside = x >= 0 && x < HAT_PLACES && y >= 0 && y < HAT_PLACES;
        return inside && isFrame(frame, FRAMES) ? told.film.add(frame, x, y) : NONE;
    }

    public int dark() {
        int all = 0;
        for (int f = 0; f < FRAMES; f++) {
            all += told.film.hats[f];
            told.film.hats[f] = 0;
        }
        return all;
    }

    public int match(int frame, int g, int hat) {
        if (!isFrame(frame, FRAMES - 1) || !isPrice(g) || !told.film.has(frame, hat)) {
            return NONE;
        }
        told.film.pair(frame, g);
        return told.film.partner[hat];
    }

    public int worth(int frame, int g) {
        if (!isFrame(frame, FRAMES - 1) || !isPrice(g)) {
            return NONE;
        }
        return told.film.pair(frame, g);
    }

    public int track(int frame, int hat, int g, int to) {
        boolean frames = isFrame(frame, FRAMES) && isFrame(to, FRAMES) && frame <= to;
        if (!frames || !isPrice(g) || !told.film.has(frame, hat)) {
            return NONE;
        }
        int now = hat;
        for (int f = frame; f < to && now != NONE; f++) {
            told.film.pair(f, g);
            now = now >= 0 && now < HATS ? told.film.partner[now] : NONE;
        }
        return now;
    }

    private static boolean isFrame(int frame, int count) {
        return frame >= 0 && frame < count;
    }

    private static boolean isPrice(int g) {
        return g >= 0 && g <= MANY;
    }

    // Habits, counts, images

    public long habit(int n, int k, int p, int q, int m, int to) {
        boolean people = n >= 2 && n <= 8 && k >= 0 && k <= n && to >= 0 && to <= n;
        boolean odds = p >= 0 && p <= TWELFTHS && q >= 0 && q <= TWELFTHS - p;
        if (!people || !odds || m < 0 || m > 6) {
            return NONE;
        }
        return habitParts(n, k, p, q, m, to);
    }

    /** HABIT itself; it goes m deep, 6 at most. */
    private static long habitParts(int n, int right, int p, int q, int m, int to) {
        // Each MEETING changes the number by one at most.
        if (m <= 0 || Math.abs(to - right) > m) {
            return right == to ? 1 : 0;
        }
        long mixed = (long) right * (n - right);
        long rest = 6L * n * (n - 1) - (p + q) * mixed;
        long parts = rest * habitParts(n, right, p, q, m - 1, to);
        if (mixed > 0) {
            parts += p * mixed * habitParts(n, right + 1, p, q, m - 1, to);
            parts += q * mixed * habitParts(n, right - 1, p, q, m - 1, to);
        }
        return parts;
    }

    public int count(int what) {
        if (what == 0) {
            return told.passageCount;
        }
        if (what == 1) {
            return told.lawCount;
        }
        return what >= 2 && what < 2 + FRAMES ? told.film.hats[what - 2] : NO_SUCH;
    }

    public boolean image(int k) {
        if (k < 0 || k >= IMAGES) {
            return false;
        }
        images[k].copyFrom(told);
        kept[k] = true;
        return true;
    }

    public boolean again(int k) {
        if (k < 0 || k >= IMAGES || !kept[k]) {
            return false;
        }
        told.copyFrom(images[k]);
        return true;
    }

    /** All that is told: what an image keeps. */
    private static final class Told {
        final byte[] tape = new byte[TAPE];
        int bytes;
        int fault;
        int place = NONE;
        final Passage[] passages = new Passage[MOST_TOLD];
        int passageCount;
        final Law[] laws = new Law[MOST_TOLD];
        int lawCount;
        /** The RUN has a ground and rules of its own: it goes on when those told are told anew. */
        final Passage ground = new Passage();
        final Law bylaw = new Law();
        final Walk walk = new Walk(ground, bylaw);
        boolean walking;
        final Film film = new Film();

        Told() {
            for (int k = 0; k < MOST_TOLD; k++) {
                passages[k] = new Passage();
                laws[k] = new Law();
            }
        }

        /** Puts a number's four bytes behind the tape, as far as there is room. */
        void append(int number) {
            for (int shift = 24; shift >= 0 && bytes < tape.length; shift -= 8) {
                tape[bytes] = (byte) (number >> shift);
                bytes++;
            }
        }

        /** Empties the tape and forgets the FAULT: how many bytes there are to read. */
        int takeTape() {
            int taken = bytes;
            bytes = 0;
            fault = 0;
            place = NONE;
            return taken;
        }

        Passage passageOf(int k) {
            return k >= 0 && k < passageCount && k < passages.length ? passages[k] : null;
        }

        Law lawOf(int k) {
            return k >= 0 && k < lawCount && k < laws.length ? laws[k] : null;
        }

        void keepPassage(int k, Passage read) {
            if (k >= 0 && k < passages.length) {
                passages[k].copyFrom(read);
                passageCount = Math.max(passageCount, k + 1);
            }
        }

        void keepLaw(int k, Law read) {
            if (k >= 0 && k < laws.length) {
                laws[k].copyFrom(read);
                lawCount = Math.max(lawCount, k + 1);
            }
        }

        void copyFrom(Told other) {
            System.arraycopy(other.tape, 0, tape, 0, TAPE);
            bytes = other.bytes;
            fault = other.fault;
            place = other.place;
            for (int k = 0; k < MOST_TOLD; k++) {
                passages[k].copyFrom(other.passages[k]);
                laws[k].copyFrom(other.laws[k]);
            }
            passageCount = other.passageCount;
            lawCount = other.lawCount;
            ground.copyFrom(other.ground);
            bylaw.copyFrom(other.bylaw);
            walk.copyFrom(other.walk);
            walking = other.walking;
            film.copyFrom(other.film);
        }
    }

    /** A PASSAGE as its text tells it. */
    private static final class Passage {
        int length;
        int width;
        int wallCount;
        int walkers;
        final boolean[] walls = new boolean[LENGTHS * WIDTHS];
        final int[] col = new int[WALKERS];
        final int[] row = new int[WALKERS];
        /** What a step ahead adds to x: 1 EAST, -1 WEST; it is what a step to the RIGHT adds to y, too. */
        final int[] way = new int[WALKERS];
        final int[] pace = new int[WALKERS];
        final int[] late = new int[WALKERS];
        final int[] haste = new int[WALKERS];
        /** RIGHT, LEFT, or 0 without one. */
        final int[] hand = new int[WALKERS];
        final int[] friend = new int[WALKERS];

        void clear(int newLength, int newWidth) {
            length = Math.max(0, Math.min(newLength, LENGTHS));
            width = Math.max(0, Math.min(newWidth, WIDTHS));
            wallCount = 0;
            walkers = 0;
            for (int at = 0; at < LENGTHS * WIDTHS; at++) {
                walls[at] = false;
            }
        }

        void copyFrom(Passage other) {
            length = other.length;
            width = other.width;
            wallCount = other.wallCount;
            walkers = other.walkers;
            System.arraycopy(other.walls, 0, walls, 0, LENGTHS * WIDTHS);
            System.arraycopy(other.col, 0, col, 0, WALKERS);
            System.arraycopy(other.row, 0, row, 0, WALKERS);
            System.arraycopy(other.way, 0, way, 0, WALKERS);
            System.arraycopy(other.pace, 0, pace, 0, WALKERS);
            System.arraycopy(other.late, 0, late, 0, WALKERS);
            System.arraycopy(other.haste, 0, haste, 0, WALKERS);
            System.arraycopy(other.hand, 0, hand, 0, WALKERS);
            System.arraycopy(other.friend, 0, friend, 0, WALKERS);
        }

        boolean has(int w) {
            return w >= 0 && w < walkers;
        }

        boolean isInside(int x, int y) {
            return x >= 0 && x < length && y >= 0 && y < width;
        }

        boolean isWall(int x, int y) {
            return isInside(x, y) && walls[x * WIDTHS + y];
        }

        void setWall(int x, int y, boolean stands) {
            if (isInside(x, y) && walls[x * WIDTHS + y] != stands) {
                walls[x * WIDTHS + y] = stands;
                wallCount += stands ? 1 : -1;
            }
        }

        /** Whether a WALL or a WALKER is told on a SQUARE. */
        boolean isTaken(int x, int y) {
            for (int w = 0; w < walkers; w++) {
                if (col[w] == x && row[w] == y) {
                    return true;
                }
            }
            return isWall(x, y);
        }

        void addWalker(int x, int y, int itsWay) {
            if (walkers >= WALKERS) {
                return;
            }
            int w = walkers;
            walkers++;
            col[w] = x;
            row[w] = y;
            way[w] = itsWay;
            pace[w] = 1;
            late[w] = 0;
            haste[w] = 0;
            hand[w] = 0;
            friend[w] = NONE;
        }

        void befriend(int a, int b) {
            if (has(a) && has(b) && a != b) {
                unfriend(a);
                unfriend(b);
                friend[a] = b;
                friend[b] = a;
            }
        }

        /** Leaves the friend whom a WALKER had without one. */
        private void unfriend(int w) {
            int other = friend[w];
            if (has(other)) {
                friend[other] = NONE;
            }
        }

        /** Leaves the first k of all that are told; the others can come back, and are no one's friends. */
        void keepFirst(int k, int all) {
            walkers = Math.max(0, Math.min(k, Math.min(all, WALKERS)));
        }

        /** Takes a WALKER away; those behind him move up, so that their order stays. */
        void drop(int gone) {
            if (!has(gone)) {
                return;
            }
            unfriend(gone);
            for (int w = gone; w + 1 < walkers; w++) {
                col[w] = col[w + 1];
                row[w] = row[w + 1];
                way[w] = way[w + 1];
                pace[w] = pace[w + 1];
                late[w] = late[w + 1];
                haste[w] = haste[w + 1];
                hand[w] = hand[w + 1];
                friend[w] = friend[w + 1];
            }
            walkers--;
            for (int w = 0; w < walkers; w++) {
                if (friend[w] > gone) {
                    friend[w]--;
                }
            }
        }
    }

    /** A LAW as its text tells it. */
    private static final class Law {
        static final int LESS = 0;
        static final int MORE = 1;
        static final int SAME = 2;

        int rules;
        final int[] deeds = new int[RULES];
        final int[] tests = new int[RULES];
        /** Each TEST in its own four rows, by RULE. */
        final int[] what = new int[RULES * TESTS];
        final int[] sign = new int[RULES * TESTS];
        final int[] number = new int[RULES * TESTS];
        final boolean[] not = new boolean[RULES * TESTS];

        void copyFrom(Law other) {
            rules = other.rules;
            System.arraycopy(other.deeds, 0, deeds, 0, RULES);
            System.arraycopy(other.tests, 0, tests, 0, RULES);
            System.arraycopy(other.what, 0, what, 0, RULES * TESTS);
            System.arraycopy(other.sign, 0, sign, 0, RULES * TESTS);
            System.arraycopy(other.number, 0, number, 0, RULES * TESTS);
            System.arraycopy(other.not, 0, not, 0, RULES * TESTS);
        }

        /** Tells TEST k of the RULE that is told next. */
        void setTest(int k, int itsWhat, int itsSign, int itsNumber, boolean itsNot) {
            if (rules < RULES && k >= 0 && k < TESTS && itsWhat >= 0 && itsWhat < FINDS) {
                int at = rules * TESTS + k;
                what[at] = itsWhat;
                sign[at] = itsSign;
                number[at] = itsNumber;
                not[at] = itsNot;
            }
        }

        void addRule(int deed, int itsTests) {
            if (rules < RULES) {
                deeds[rules] = deed;
                tests[rules] = Math.max(0, Math.min(itsTests, TESTS));
                rules++;
            }
        }

        /** What one does who finds all this. */
        int deedFor(int[] sight) {
            for (int rule = 0; rule < rules; rule++) {
                if (holds(rule, sight)) {
                    return deeds[rule];
                }
            }
            return WAIT;
        }

        private boolean holds(int rule, int[] sight) {
            for (int k = 0; k < tests[rule]; k++) {
                int at = rule * TESTS + k;
                int found = what[at] < sight.length ? sight[what[at]] : 0;
                boolean so;
                switch (sign[at]) {
                    case LESS: so = found < number[at]; break;
                    case MORE: so = found > number[at]; break;
                    default: so = found == number[at]; break;
                }
                if (so == not[at]) {
                    return false;
                }
            }
            return true;
        }

        boolean weighs(int find) {
            for (int rule = 0; rule < rules; rule++) {
                for (int k = 0; k < tests[rule]; k++) {
                    if (what[rule * TESTS + k] == find) {
                        return true;
                    }
                }
            }
            return false;
        }
    }

    /** The tape token by token, and the FAULT of its text. */
    private static final class Reader {
        static final int UNREADABLE = 1;
        static final int BAD_NUMBER = 2;
        static final int TOO_MANY = 3;
        static final int TAKEN = 4;

        private static final int END = 0;
        private static final int WORD = 1;
        private static final int NUMBER = 2;
        private static final int SIGN = 3;
        private static final int OTHER = 4;

        final byte[] text;
        int size;
        int kind;
        /** The token's first byte, and the one behind it. */
        int from;
        int to;
        int value;
        int fault;
        int place;

        Reader(byte[] tape) {
            text = tape;
        }

        void open(int bytes) {
            size = Math.max(0, Math.min(bytes, text.length));
            to = 0;
            fault = 0;
            place = NONE;
            step();
        }

        /** Goes on to the next token; a byte (or row of digits) that is none is OTHER. */
        void step() {
            while (to < size && (text[to] == ' ' || text[to] == '\n')) {
                to++;
            }
            from = to;
            value = 0;
            if (from >= size) {
                kind = END;
            } else if (isLetter(text[from])) {
                kind = WORD;
                while (to < size && isLetter(text[to])) {
                    to++;
                }
            } else if (isDigit(text[from])) {
                while (to < size && isDigit(text[to])) {
                    // A longer row is no NUMBER: its value must not overflow, it is never asked for.
                    value = Math.min(value * 10 + text[to] - '0', 1000);
                    to++;
                }
                kind = to - from <= 3 ? NUMBER : OTHER;
            } else {
                byte c = text[from];
                kind = c == ':' || c == ';' || c == '<' || c == '>' || c == '=' ? SIGN : OTHER;
                to++;
            }
        }

        private static boolean isLetter(byte c) {
            return c >= 'a' && c <= 'z';
        }

        private static boolean isDigit(byte c) {
            return c >= '0' && c <= '9';
        }

        /** Whether there is a token, and the text can be read till there. */
        boolean goesOn() {
            return fault != UNREADABLE && kind != END;
        }

        boolean isWord(String word) {
            if (fault == UNREADABLE || kind != WORD || to - from != word.length()) {
                return false;
            }
            for (int i = 0; i < word.length() && from + i < size; i++) {
                if (text[from + i] != word.charAt(i)) {
                    return false;
                }
            }
            return true;
        }

        boolean isSign(char sign) {
            return fault != UNREADABLE && kind == SIGN && from < size && text[from] == sign;
        }

        /** Takes the token if it is that word. */
        boolean takesWord(String word) {
            boolean is = isWord(word);
            if (is) {
                step();
            }
            return is;
        }

        void needWord(String word) {
            if (!takesWord(word)) {
                breakOff();
            }
        }

        void needSign(char sign) {
            if (isSign(sign)) {
                step();
            } else {
                breakOff();
            }
        }

        int needNumber() {
            if (fault == UNREADABLE || kind != NUMBER) {
                breakOff();
                return 0;
            }
            int number = value;
            step();
            return number;
        }

        /** A NUMBER that must not be less or more than this. */
        int needNumber(int least, int most) {
            int at = from;
            int number = needNumber();
            if (number < least || number > most) {
                note(BAD_NUMBER, at);
            }
            return number;
        }

        /** No text goes on with this token; this FAULT strikes all others. */
        void breakOff() {
            if (fault != UNREADABLE) {
                fault = UNREADABLE;
                place = from;
            }
        }

        /** Another FAULT: they are found by place, so that the first one stays. */
        void note(int itsFault, int at) {
            if (fault == 0) {
                fault = itsFault;
                place = at;
            }
        }

        boolean isSound() {
            return fault == 0;
        }
    }

    /** Reads a PASSAGE's text. */
    private static final class PassageText {
        private final Reader reader;
        private final Passage passage;

        PassageText(Reader itsReader, Passage target) {
            reader = itsReader;
            passage = target;
        }

        boolean read(int bytes) {
            reader.open(bytes);
            readSize();
            for (int lines = 0; lines < TAPE && reader.goesOn(); lines++) {
                if (lines >= LINES) {
                    reader.note(Reader.TOO_MANY, reader.from);
                }
                readLine();
            }
            return reader.isSound();
        }

        private void readSize() {
            reader.needWord("size");
            int length = reader.needNumber(2, LENGTHS);
            int width = reader.needNumber(1, WIDTHS);
            reader.needSign(';');
            passage.clear(length, width);
        }

        private void readLine() {
            int first = reader.from;
            if (reader.takesWord("wall")) {
                readWall();
            } else if (reader.takesWord("walker")) {
                readWalker(first);
            } else if (reader.takesWord("pace")) {
                readTrait(passage.pace, 1, 4);
            } else if (reader.takesWord("late")) {
                readTrait(passage.late, 0, 3);
            } else if (reader.takesWord("haste")) {
                readTrait(passage.haste, 0, 9);
            } else if (reader.takesWord("hand")) {
                readHand();
            } else if (reader.takesWord("friends")) {
                readFriends();
            } else {
                reader.breakOff();
            }
            reader.needSign(';');
        }

        private void readWall() {
            int at = reader.from;
            int x = reader.needNumber(0, passage.length - 1);
            int y = reader.needNumber(0, passage.width - 1);
            if (isOpen(x, y, at)) {
                passage.setWall(x, y, true);
            }
        }

        private void readWalker(int first) {
            if (passage.walkers >= WALKERS) {
                reader.note(Reader.TOO_MANY, first);
            }
            int at = reader.from;
            int x = reader.needNumber(0, passage.length - 1);
            int y = reader.needNumber(0, passage.width - 1);
            boolean east = reader.takesWord("east");
            if (!east) {
                reader.needWord("west");
            }
            if (isOpen(x, y, at)) {
                passage.addWalker(x, y, east ? 1 : -1);
            }
        }

        /** Whether all is sound till there, the SQUARE too. */
        private boolean isOpen(int x, int y, int at) {
            if (reader.isSound() && passage.isTaken(x, y)) {
                reader.note(Reader.TAKEN, at);
            }
            return reader.isSound();
        }

        private void readTrait(int[] trait, int least, int most) {
            int w = reader.needNumber(0, passage.walkers - 1);
            int much = reader.needNumber(least, most);
            if (reader.isSound() && w >= 0 && w < trait.length) {
                trait[w] = much;
            }
        }

        private void readHand() {
            int w = reader.needNumber(0, passage.walkers - 1);
            boolean right = reader.takesWord("right");
            if (!right) {
                reader.needWord("left");
            }
            if (reader.isSound() && passage.has(w)) {
                passage.hand[w] = right ? RIGHT : LEFT;
            }
        }

        private void readFriends() {
            int a = reader.needNumber(0, passage.walkers - 1);
            int at = reader.from;
            int b = reader.needNumber(0, passage.walkers - 1);
            if (a == b) {
                reader.note(Reader.BAD_NUMBER, at);
            }
            if (reader.isSound()) {
                passage.befriend(a, b);
            }
        }
    }

    /** Reads a LAW's text. */
    private static final class LawText {
        private final Reader reader;
        private final Law law;

        LawText(Reader itsReader, Law target) {
            reader = itsReader;
            law = target;
        }

        boolean read(int bytes) {
            reader.open(bytes);
            law.rules = 0;
            for (int rules = 0; rules < TAPE && reader.goesOn(); rules++) {
                if (rules >= RULES) {
                    reader.note(Reader.TOO_MANY, reader.from);
                }
                readRule();
            }
            return reader.isSound();
        }

        private void readRule() {
            int tests = 0;
            if (reader.takesWord("if")) {
                readTest(0);
                tests = 1;
                while (tests < TAPE && reader.takesWord("and")) {
                    readTest(tests);
                    tests++;
                }
                reader.needSign(':');
            }
            int deed = readDeed();
            reader.needSign(';');
            if (reader.isSound()) {
                law.addRule(deed, tests);
            }
        }

        private void readTest(int k) {
            if (k >= TESTS) {
                reader.note(Reader.TOO_MANY, reader.from);
            }
            boolean not = reader.takesWord("not");
            int what = readFind();
            int sign = Law.SAME;
            int number = 1;
            if (what < BLOCKED) {
                sign = readSign();
                number = reader.needNumber();
            }
            if (reader.isSound()) {
                law.setTest(k, what, sign, number, not);
            }
        }

        private int readFind() {
            for (int what = 0; what < FINDS; what++) {
                if (reader.takesWord(findWord(what))) {
                    return what;
                }
            }
            reader.breakOff();
            return 0;
        }

        private int readSign() {
            if (reader.isSign('<')) {
                reader.step();
                return Law.LESS;
            }
            if (reader.isSign('>')) {
                reader.step();
                return Law.MORE;
            }
            reader.needSign('=');
            return Law.SAME;
        }

        private int readDeed() {
            for (int deed = 0; deed < DEEDS; deed++) {
                if (reader.takesWord(deedWord(deed))) {
                    return deed;
                }
            }
            reader.breakOff();
            return WAIT;
        }

        private static String findWord(int what) {
            switch (what) {
                case AHEAD: return "ahead";
                case SOON: return "soon";
                case NEAR: return "near";
                case FREE_RIGHT: return "right";
                case FREE_LEFT: return "left";
                case WAITED: return "waited";
                case HASTE: return "haste";
                case CROWD: return "crowd";
                case BLOCKED: return "blocked";
                case FACING: return "facing";
                default: return "parted";
            }
        }

        private static String deedWord(int deed) {
            switch (deed) {
                case GO: return "go";
                case RIGHT: return "right";
                case LEFT: return "left";
                case HAND: return "hand";
                case LOT: return "lot";
                default: return "wait";
            }
        }
    }

    /** A RUN, or a trial: where its WALKERS are, and how they came there. */
    private static final class Walk {
        /** Where they were is kept for so many TENTHS: now, and the greatest LATE ago. */
        static final int LAGS = 4;
        /** So many TENTHS without a move are a stand; so many behind one another are a FLOW's. */
        static final int TEN = 10;
        private static final int FARTHEST = 9;
        private static final int CLOSE = 2;
        /** Steps to what isn't there: more than to anything in a PASSAGE. */
        private static final int FAR = 1000;

        /** What is kept of a DOOR, the first three as door() tells them. */
        private static final int TURNS = 0;
        private static final int LONGEST = 1;
        private static final int STEPS = 2;
        private static final int LAST_WAY = 3;
        private static final int IN_A_ROW = 4;
        private static final int DOOR = 5;

        final Passage ground;
        final Law law;
        int tenth;
        int seed;
        int lots;
        int arrived;
        int dances;
        int quiet;
        /** Whom the latest look straight on ended at; NONE: at nobody. */
        int met;
        /** x and y of all, now, then one TENTH ago, and so on; NONE: ARRIVED. */
        final int[] col = new int[LAGS * WALKERS];
        final int[] row = new int[LAGS * WALKERS];
        final int[] arrivedIn = new int[WALKERS];
        final int[] moves = new int[WALKERS];
        final int[] sidesteps = new int[WALKERS];
        final int[] bumps = new int[WALKERS];
        final int[] waited = new int[WALKERS];
        /** What they do in this TENTH; a lot that is drawn stands here as RIGHT or LEFT. */
        final int[] aim = new int[WALKERS];
        final int[] order = new int[WALKERS];
        final int[] sight = new int[FINDS];
        final int[] doors = new int[(LENGTHS - 1) * DOOR];

        Walk(Passage itsGround, Law itsLaw) {
            ground = itsGround;
            law = itsLaw;
        }

        void begin(int itsSeed) {
            seed = itsSeed;
            tenth = 0;
            lots = 0;
            arrived = 0;
            dances = 0;
            quiet = 0;
            for (int lag = 0; lag < LAGS; lag++) {
                System.arraycopy(ground.col, 0, col, lag * WALKERS, WALKERS);
                System.arraycopy(ground.row, 0, row, lag * WALKERS, WALKERS);
            }
            Arrays.fill(arrivedIn, NONE);
            Arrays.fill(moves, 0);
            Arrays.fill(sidesteps, 0);
            Arrays.fill(bumps, 0);
            Arrays.fill(waited, 0);
            Arrays.fill(doors, 0);
            sortByHaste();
        }

        private void sortByHaste() {
            int sorted = 0;
            for (int haste = 9; haste >= 0; haste--) {
                for (int w = 0; w < ground.walkers && sorted < WALKERS; w++) {
                    if (ground.haste[w] == haste) {
                        order[sorted] = w;
                        sorted++;
                    }
                }
            }
        }

        /** All but the ground and the rules, which each WALK has for itself. */
        void copyFrom(Walk other) {
            tenth = other.tenth;
            seed = other.seed;
            lots = other.lots;
            arrived = other.arrived;
            dances = other.dances;
            quiet = other.quiet;
            System.arraycopy(other.col, 0, col, 0, LAGS * WALKERS);
            System.arraycopy(other.row, 0, row, 0, LAGS * WALKERS);
            System.arraycopy(other.arrivedIn, 0, arrivedIn, 0, WALKERS);
            System.arraycopy(other.moves, 0, moves, 0, WALKERS);
            System.arraycopy(other.sidesteps, 0, sidesteps, 0, WALKERS);
            System.arraycopy(other.bumps, 0, bumps, 0, WALKERS);
            System.arraycopy(other.waited, 0, waited, 0, WALKERS);
            System.arraycopy(other.aim, 0, aim, 0, WALKERS);
            System.arraycopy(other.order, 0, order, 0, WALKERS);
            System.arraycopy(other.doors, 0, doors, 0, (LENGTHS - 1) * DOOR);
        }

        boolean isThere(int w) {
            return ground.has(w) && col[w] != NONE;
        }

        int whoIsOn(int x, int y) {
            for (int w = 0; w < ground.walkers; w++) {
                if (col[w] == x && row[w] == y && x != NONE) {
                    return w;
                }
            }
            return NONE;
        }

        // What a WALKER finds and does

        /** Puts all that a WALKER finds as the TENTH begins into sight. */
        void look(int w) {
            int way = ground.way[w];
            int ahead = freeSteps(w, way, 0);
            boolean faces = met != NONE && ground.way[met] != way;
            sight[AHEAD] = ahead;
            sight[BLOCKED] = ahead == 0 ? 1 : 0;
            sight[FACING] = faces ? 1 : 0;
            sight[SOON] = met == NONE ? MANY : soon(ahead, ground.pace[w], ground.pace[met], faces);
            sight[FREE_RIGHT] = freeSteps(w, 0, way);
            sight[FREE_LEFT] = freeSteps(w, 0, -way);
            sight[WAITED] = waited[w];
            sight[HASTE] = ground.haste[w];
            lookAround(w);
        }

        /** Where in col and row he sees the first WALKER; the others follow. */
        private int pastOf(int w) {
            int late = ground.late[w];
            return late > 0 && late < LAGS ? late * WALKERS : 0;
        }

        /** How many SQUARES that way are free as he sees it; a WALKER who ends them is met. */
        private int freeSteps(int w, int dx, int dy) {
            int first = stepsToWall(w, dx, dy);
            int past = pastOf(w);
            met = NONE;
            for (int other = 0; other < ground.walkers; other++) {
                if (other == w || col[past + other] == NONE) {
                    continue;
                }
                int x = col[past + other] - col[w];
                int y = row[past + other] - row[w];
                int along = x * dx + y * dy;
                if (x * dy == y * dx && along > 0 && along < first) {
                    first = along;
                    met = other;
                }
            }
            return Math.min(FARTHEST, first - 1);
        }

        /** Steps that way till a WALL, or till out at a side; out ahead all is free. */
        private int stepsToWall(int w, int dx, int dy) {
            int x = col[w] + dx;
            int y = row[w] + dy;
            int steps = 1;
            while (steps <= LENGTHS && x >= 0 && x < ground.length && y >= 0 && y < ground.width) {
                if (ground.walls[x * WIDTHS + y]) {
                    return steps;
                }
                x += dx;
                y += dy;
                steps++;
            }
            return dy == 0 ? FAR : steps;
        }

        private static int soon(int ahead, int pace, int others, boolean faces) {
            int nearing = faces ? pace + others : others - pace;
            return nearing > 0 ? Math.min(MANY, ahead * pace * others / nearing) : MANY;
        }

        private void lookAround(int w) {
            int past = pastOf(w);
            sight[NEAR] = MANY;
            sight[CROWD] = 0;
            sight[PARTED] = 0;
            for (int other = 0; other < ground.walkers; other++) {
                if (other == w || col[past + other] == NONE) {
                    continue;
                }
                int steps = Math.abs(col[past + other] - col[w])
                    + Math.abs(row[past + other] - row[w]);
                sight[NEAR] = Math.min(sight[NEAR], steps);
                if (steps <= CLOSE) {
                    sight[CROWD]++;
                } else if (other == ground.friend[w]) {
                    sight[PARTED] = 1;
                }
            }
        }

        /** What a WALKER does in this TENTH, by the RULE alone. */
        int deed(int w) {
            int pace = ground.pace[w];
            if (col[w] == NONE || pace < 1 || tenth % pace != 0) {
                return WAIT;
            }
            look(w);
            return law.deedFor(sight);
        }

        // How a TENTH passes

        /** One TENTH: how many moved in it. */
        int pass() {
            for (int w = 0; w < ground.walkers; w++) {
                aim[w] = deed(w);
                if (needsLot(w)) {
                    aim[w] = draw() ? RIGHT : LEFT;
                }
            }
            return move();
        }

        boolean needsLot(int w) {
            return aim[w] == LOT || aim[w] == HAND && ground.hand[w] == 0;
        }

        private boolean draw() {
            seed = seed * 1103515245 + 12345;
            lots++;
            return ((seed >> 16) & 1) == 0;
        }

        /** All go to their aims: how many moved. */
        int move() {
            System.arraycopy(col, 0, col, WALKERS, (LAGS - 1) * WALKERS);
            System.arraycopy(row, 0, row, WALKERS, (LAGS - 1) * WALKERS);
            int moved = 0;
            for (int i = 0; i < ground.walkers; i++) {
                int w = order[i];
                if (goes(w)) {
                    moved++;
                    moves[w]++;
                    waited[w] = 0;
                } else {
                    waited[w] = Math.min(MANY, waited[w] + 1);
                }
            }
            dances += dancesNow();
            quiet = moved > 0 ? 0 : quiet + 1;
            tenth++;
            return moved;
        }

        /** One goes to his aim: whether he moved. */
        private boolean goes(int w) {
            if (!isThere(w) || aim[w] == WAIT) {
                return false;
            }
            int way = ground.way[w];
            int aimed = aim[w] == HAND ? ground.hand[w] : aim[w];
            boolean straight = aimed == GO;
            int x = straight ? col[w] + way : col[w];
            int side = aimed == RIGHT ? way : -way;
            int y = straight ? row[w] : row[w] + side;
            boolean out = !ground.isInside(x, y);
            if (straight && out) {
                arrive(w);
                return true;
            }
            if (out || ground.isWall(x, y) || whoIsOn(x, y) != NONE) {
                bumps[w]++;
                return false;
            }
            if (straight) {
                passDoor(Math.min(x, col[w]), way);
            } else {
                sidesteps[w]++;
            }
            col[w] = x;
            row[w] = y;
            return true;
        }

        private void arrive(int w) {
            col[w] = NONE;
            row[w] = NONE;
            arrivedIn[w] = tenth;
            arrived++;
        }

        private void passDoor(int x, int way) {
            if (x < 0 || x >= LENGTHS - 1) {
                return;
            }
            int at = x * DOOR;
            // No way is 0, so that the first step is a turn, the 1 that is added.
            if (doors[at + LAST_WAY] != way) {
                doors[at + LAST_WAY] = way;
                doors[at + IN_A_ROW] = 0;
                doors[at + TURNS]++;
            }
            doors[at + IN_A_ROW]++;
            doors[at + STEPS]++;
            doors[at + LONGEST] = Math.max(doors[at + LONGEST], doors[at + IN_A_ROW]);
        }

        int doorOf(int x, int what) {
            boolean is = x >= 0 && x < LENGTHS - 1 && what >= TURNS && what <= STEPS;
            return is ? doors[x * DOOR + what] : NONE;
        }

        /** How many DANCES the TENTH had, when all have gone: where they were is one lag behind. */
        private int dancesNow() {
            int found = 0;
            for (int a = 0; a < ground.walkers; a++) {
                for (int b = a + 1; b < ground.walkers; b++) {
                    if (ground.way[a] != ground.way[b] && danced(a, b)) {
                        found++;
                    }
                }
            }
            return found;
        }

        private boolean danced(int a, int b) {
            int oldA = WALKERS + a;
            int oldB = WALKERS + b;
            // Who is there no more has the row NONE, which nobody had before.
            boolean aside = row[a] != NONE && row[a] == row[b] && row[a] != row[oldA];
            return aside && row[oldA] == row[oldB] && Math.abs(col[oldA] - col[oldB]) <= CLOSE;
        }

        // What can be seen of it

        /** 1: a row has only who go EAST, -1: WEST, 2: both, 0: nobody. */
        private int wayOfRow(int y) {
            int found = 0;
            for (int w = 0; w < ground.walkers; w++) {
                if (col[w] != NONE && row[w] == y) {
                    found = found == 0 || found == ground.way[w] ? ground.way[w] : 2;
                }
            }
            return found;
        }

        int lanes() {
            int lanes = 0;
            int last = 0;
            for (int y = 0; y < ground.width; y++) {
                int way = wayOfRow(y);
                if (way != 0 && way != 2 && way != last) {
                    lanes++;
                    last = way;
                }
            }
            return lanes;
        }

        int mixedRows() {
            int mixed = 0;
            for (int y = 0; y < ground.width; y++) {
                mixed += wayOfRow(y) == 2 ? 1 : 0;
            }
            return mixed;
        }

        boolean touches(int a, int b) {
            if (!isThere(a) || !isThere(b)) {
                return false;
            }
            return Math.abs(col[a] - col[b]) + Math.abs(row[a] - row[b]) == 1;
        }

        /** FLOW so far: the best ten TENTHS begin as somebody ARRIVES. */
        int mostArrivals() {
            int most = 0;
            for (int first = 0; first < ground.walkers; first++) {
                int from = arrivedIn[first];
                int all = 0;
                for (int w = 0; w < ground.walkers && from != NONE; w++) {
                    all += arrivedIn[w] >= from && arrivedIn[w] < from + TEN ? 1 : 0;
                }
                most = Math.max(most, all);
            }
            return most;
        }
    }

    /** TWO by all lots: each TENTH is spread over what its lots can be. */
    private static final class Chances {
        static final int TENTHS = 8;
        static final int DANCES = TENTHS + 1;
        /** In a row of PARTS: first those in which both ARRIVED, then those of 0, 1, .. DANCES. */
        private static final int KINDS = 1 + DANCES;
        private static final int SLOT_BITS = 9;
        private static final int SLOTS = 1 << SLOT_BITS;

        private final Passage ground;
        private final Law law;
        private final Walk[] walks = new Walk[TENTHS + 1];
        /** The rows of PARTS, one for each depth. */
        private final int[] parts = new int[(TENTHS + 1) * KINDS];
        /** What has been found out: from how it stood, with so many TENTHS left (0: nothing yet). */
        private final long[] knownKey = new long[SLOTS];
        private final int[] knownLeft = new int[SLOTS];
        private final int[] knownParts = new int[SLOTS * KINDS];
        /** How much of the past can matter. */
        private int lags;
        private boolean weighsWaited;

        Chances(Passage itsGround, Law itsLaw) {
            ground = itsGround;
            law = itsLaw;
            for (int depth = 0; depth <= TENTHS; depth++) {
                walks[depth] = new Walk(itsGround, itsLaw);
            }
        }

        /** PARTS of a kind in n TENTHS of the two on the ground. */
        int parts(int n, int kind) {
            if (ground.walkers != 2 || n < 0 || n > TENTHS || kind < 0 || kind >= KINDS) {
                return NONE;
            }
            lags = 1 + Math.min(Walk.LAGS - 1, Math.max(ground.late[0], ground.late[1]));
            weighsWaited = law.weighs(WAITED);
            Arrays.fill(knownLeft, 0);
            walks[0].begin(0);
            spread(0, n);
            return parts[kind];
        }

        /** Finds the row of PARTS of this depth: it calls itself once deeper for each TENTH left. */
        private void spread(int depth, int left) {
            Walk walk = walks[depth];
            int at = depth * KINDS;
            for (int kind = 0; kind < KINDS; kind++) {
                parts[at + kind] = 0;
            }
            if (left <= 0 || depth >= TENTHS || walk.arrived == 2) {
                parts[at] = walk.arrived == 2 ? 1 << 2 * left : 0;
                parts[at + 1] = 1 << 2 * left;
                return;
            }
            long key = keyOf(walk);
            int slot = slotOf(key, left);
            if (knownLeft[slot] == left && knownKey[slot] == key) {
                System.arraycopy(knownParts, slot * KINDS, parts, at, KINDS);
                return;
            }
            spreadLots(depth, left);
            knownLeft[slot] = left;
            knownKey[slot] = key;
            System.arraycopy(parts, at, knownParts, slot * KINDS, KINDS);
        }

        private void spreadLots(int depth, int left) {
            Walk walk = walks[depth];
            Walk next = walks[depth + 1];
            walk.aim[0] = walk.deed(0);
            walk.aim[1] = walk.deed(1);
            int first = walk.needsLot(0) ? 1 : 0;
            int second = walk.needsLot(1) ? 1 : 0;
            for (int a = 0; a <= first; a++) {
                for (int b = 0; b <= second; b++) {
                    next.copyFrom(walk);
                    if (first == 1) {
                        next.aim[0] = a == 0 ? RIGHT : LEFT;
                    }
                    if (second == 1) {
                        next.aim[1] = b == 0 ? RIGHT : LEFT;
                    }
                    next.move();
                    spread(depth + 1, left - 1);
                    addDeeper(depth, next.dances - walk.dances, 4 >> first + second);
                }
            }
        }

        /** Adds the row of the next depth, so many times, so many DANCES on. */
        private void addDeeper(int depth, int dances, int times) {
            int at = depth * KINDS;
            int deeper = at + KINDS;
            parts[at] += times * parts[deeper];
            for (int k = 0; k < DANCES; k++) {
                if (dances >= 0 && dances <= k) {
                    parts[at + 1 + k] += times * parts[deeper + 1 + k - dances];
                }
            }
        }

        /** All of how it stands that what comes depends on, but the TENTH; 7 bits a SQUARE. */
        private long keyOf(Walk walk) {
            long key = 0;
            for (int lag = 0; lag < lags; lag++) {
                for (int w = 0; w < 2; w++) {
                    int at = lag * WALKERS + w;
                    int square = walk.col[at] == NONE
                        ? LENGTHS * WIDTHS : walk.col[at] * WIDTHS + walk.row[at];
                    key = key << 7 | square;
                }
            }
            if (weighsWaited) {
                key = key << 8 | walk.waited[0] << 4 | walk.waited[1];
            }
            return key;
        }

        private static int slotOf(long key, int left) {
            long mixed = (key * 10 + left) * 0x9E3779B97F4A7C15L;
            return (int) (mixed >>> 64 - SLOT_BITS);
        }
    }

    /** The FILM: its HATS, and how those of a FRAME match those of the next. */
    private static final class Film {
        private static final int SETS = 1 << HATS;

        final int[] hats = new int[FRAMES];
        final int[] col = new int[FRAMES * HATS];
        final int[] row = new int[FRAMES * HATS];
        /** The row of the latest MATCH. */
        final int[] partner = new int[HATS];
        /** The least cost of the HATS from one on, with a set of the next FRAME's given away. */
        private final int[] least = new int[(HATS + 1) * SETS];

        void copyFrom(Film other) {
            System.arraycopy(other.hats, 0, hats, 0, FRAMES);
            System.arraycopy(other.col, 0, col, 0, FRAMES * HATS);
            System.arraycopy(other.row, 0, row, 0, FRAMES * HATS);
        }

        int add(int frame, int x, int y) {
            if (frame < 0 || frame >= FRAMES || hats[frame] >= HATS) {
                return NONE;
            }
            int number = hats[frame];
            col[frame * HATS + number] = x;
            row[frame * HATS + number] = y;
            hats[frame]++;
            return number;
        }

        boolean has(int frame, int number) {
            return frame >= 0 && frame < FRAMES && number >= 0 && number < hats[frame];
        }

        boolean hasHat(int frame, int x, int y) {
            for (int h = 0; h < HATS && has(frame, h); h++) {
                if (col[frame * HATS + h] == x && row[frame * HATS + h] == y) {
                    return true;
                }
            }
            return false;
        }

        /** Finds the MATCH of a FRAME: what it costs; its row is in partner then. */
        int pair(int frame, int g) {
            if (frame < 0 || frame >= FRAMES - 1) {
                return NONE;
            }
            int nexts = hats[frame + 1];
            for (int set = 0; set < 1 << nexts; set++) {
                least[hats[frame] * SETS + set] = g * (nexts - Integer.bitCount(set));
            }
            for (int h = hats[frame] - 1; h >= 0; h--) {
                for (int set = 0; set < 1 << nexts; set++) {
                    least[h * SETS + set] = leastFrom(frame, h, set, g);
                }
            }
            int set = 0;
            for (int h = 0; h < hats[frame]; h++) {
                partner[h] = leastPartner(frame, h, set);
                set |= partner[h] == NONE ? 0 : 1 << partner[h];
            }
            return least[0];
        }

        private int leastFrom(int frame, int h, int set, int g) {
            int cost = g + least[(h + 1) * SETS + set];
            for (int n = 0; n < hats[frame + 1]; n++) {
                if ((set >> n & 1) == 0) {
                    cost = Math.min(cost, coupled(frame, h, n, set));
                }
            }
            return cost;
        }

        /** The first one of the next FRAME that is in a least MATCH; only else none. */
        private int leastPartner(int frame, int h, int set) {
            for (int n = 0; n < hats[frame + 1]; n++) {
                boolean open = (set >> n & 1) == 0;
                if (open && coupled(frame, h, n, set) == least[h * SETS + set]) {
                    return n;
                }
            }
            return NONE;
        }

        /** The least cost from a HAT on, if it goes with one of the next FRAME. */
        private int coupled(int frame, int h, int n, int set) {
            int a = frame * HATS + h;
            int b = (frame + 1) * HATS + n;
            int far = Math.abs(col[a] - col[b]) + Math.abs(row[a] - row[b]);
            return far + least[(h + 1) * SETS + (set | 1 << n)];
        }
    }
}
