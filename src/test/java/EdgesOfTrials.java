/** Promises 18 to 27, and of Terms 3 and 5 what they tell of. */
final class EdgesOfTrials {
    private static final int NONE = PavementWalk.NONE;
    private static final int NO_COST = -100000;
    private static final int LEAST = Integer.MIN_VALUE;
    private static final int GREATEST = Integer.MAX_VALUE;
    private static final int[] NO_TIMES = {0, -1, 201, 202, LEAST, GREATEST};
    private static final int[] NO_SHORT_TIMES = {0, -1, 101, 200, LEAST, GREATEST};
    /** Of a PASSAGE 0 and a LAW 0 alone. */
    private static final int[] NO_SUCH = {1, 2, 3, -1, -2, LEAST, GREATEST};
    /** Who has a free SQUARE at his right waits: a WALL there lets him go. */
    private static final String NEEDS_WALL = "if right=1:wait;go;";

    private final Edges edges;

    EdgesOfTrials(Edges edges) {
        this.edges = edges;
    }

    void test() {
        two();
        twoRefused();
        twoByAllLots();
        twoAnew();
        fullest();
        fullestRefused();
        pillar();
        pillarRefused();
        cost();
        costRefused();
        better();
        betterRefused();
        flow();
        touch();
        touchRefused();
        slack();
        slackRefused();
        opened();
        openedRefused();
        fits();
        seeds();
    }

    // Promise 18

    private void two() {
        edges.promise(18, "TWO, what 0: both ARRIVED, 10 + k: k DANCES, 0 .. 8, in PARTS.");
        PavementWalk out = Checks.told("size 2 2;walker 1 0 east;walker 0 1 west;", "go;");
        edges.due("n 0, both ARRIVED", out.two(0, 0, 0, 0), 0);
        edges.dueRow("n 0, DANCES", k -> out.two(0, 0, 0, 10 + k), 1, 0, 0, 0, 0, 0, 0, 0, 0);
        edges.dueRow("both ARRIVED by", n -> out.two(0, 0, n, 0), 0, 4, 16, 64, 256, 1024, 4096, 16384, 65536);
        edges.dueRow("n 8, DANCES", k -> out.two(0, 0, 8, 10 + k), 65536, 0, 0, 0, 0, 0, 0, 0, 0);
        PavementWalk dance = Checks.told("size 2 2;walker 0 0 east;walker 1 0 west;", "if right=1:right;left;");
        edges.dueRow("n 8, each a DANCE", k -> dance.two(0, 0, 8, 10 + k), 0, 0, 0, 0, 0, 0, 0, 0, 65536);
        edges.dueRow("n 5, each a DANCE", k -> dance.two(0, 0, 5, 10 + k), 0, 0, 0, 0, 0, 1024, 0, 0, 0);
        edges.due("none ARRIVED", dance.two(0, 0, 8, 0), 0);
        PavementWalk one = Checks.told("size 2 2;walker 1 0 east;walker 0 0 west;", "if right=0:go;wait;");
        edges.due("one of them is not both", one.two(0, 0, 8, 0), 0);
    }

    private void twoRefused() {
        edges.promise(18, "NONE: it has not two WALKERS, there is none such (of any), or for another what.");
        PavementWalk walk = Checks.told("size 4 3;walker 0 0 east;walker 3 0 west;", "go;");
        edges.dueAll("PASSAGE", k -> walk.two(k, 0, 1, 0), NONE, NO_SUCH);
        edges.dueAll("LAW", k -> walk.two(0, k, 1, 10), NONE, NO_SUCH);
        edges.dueAll("n", n -> walk.two(0, 0, n, 0), NONE, 9, 10, 100, -1, LEAST, GREATEST);
        edges.dueAll("n, DANCES", n -> walk.two(0, 0, n, 10), NONE, 9, 10, 100, -1, LEAST, GREATEST);
        edges.dueAll("another what", what -> walk.two(0, 0, 1, what), NONE, 1, 2, 8, 9, 19, 20, -1, -10, LEAST,
            GREATEST);
        edges.due("the last what", walk.two(0, 0, 1, 18), 0);
        Checks.passage(walk, "size 4 3;");
        Checks.passage(walk, "size 4 3;walker 0 0 east;");
        edges.due("no WALKERS", walk.two(1, 0, 1, 0), NONE);
        edges.due("one", walk.two(2, 0, 1, 10), NONE);
        Checks.tell(walk, "size 4 3;walker 0 0 east;walker 1 0 east;walker 2 0 east;");
        walk.passage(2);
        edges.due("three", walk.two(2, 0, 1, 10), NONE);
    }

    private void twoByAllLots() {
        edges.term("by all lots (each lot halves; PARTS: 4 to the n are one)");
        PavementWalk both = Checks.told("size 2 2;walker 0 0 east;walker 1 0 west;", "lot;");
        edges.dueRow("two lots, n 1", k -> both.two(0, 0, 1, 10 + k), 3, 1, 0, 0, 0, 0, 0, 0, 0);
        edges.due("eight DANCES", both.two(0, 0, 8, 18), 1);
        PavementWalk one = Checks.told("size 2 2;walker 0 0 east;walker 1 0 west;hand 0 right;", "hand;");
        edges.dueRow("one lot, n 1", k -> one.two(0, 0, 1, 10 + k), 2, 2, 0, 0, 0, 0, 0, 0, 0);
        PavementWalk paced = Checks.told("size 2 2;walker 0 0 east;walker 1 0 west;pace 0 2;pace 1 3;", "lot;");
        // 0 draws in the TENTHS 0, 2, 4 and 6, 1 in 0, 3 and 6; they can DANCE in 0 and 6 alone.
        int all = 0;
        for (int k = 0; k <= 8; k++) {
            all += paced.two(0, 0, 8, 10 + k);
        }
        edges.due("all PARTS", all, 65536);
        edges.dueAll("more DANCES than they can", k -> paced.two(0, 0, 8, 10 + k), 0, 3, 4, 5, 6, 7, 8);
        // Ahead of TENTH 6 each has drawn since TENTH 0, and is in either row alike.
        edges.due("in both", paced.two(0, 0, 8, 12), 65536 / 4 / 2 / 4);
        PavementWalk free = Checks.told("size 9 6;walker 0 0 east;walker 8 5 west;", "if right=0:lot;go;");
        edges.due("lots of one who BUMPS halve, too", free.two(0, 0, 1, 10), 4);
        // By his one lot 1 stays at 3, 4 for ever, or is out in the next TENTH; 0 is out in TENTH 2.
        PavementWalk half = Checks.told("size 4 6;walker 2 0 west;walker 3 3 east;",
            "if left=3:lot;if left=4:wait;go;");
        edges.dueRow("one stays or is out, n", n -> half.two(0, 0, n, 0), 0, 0, 0, 32, 128, 512, 2048, 8192, 32768);
    }

    /** What one question found is no other one's answer. */
    private void twoAnew() {
        edges.term("in how many both ARRIVED by then; in how many there were k DANCES.");
        PavementWalk walk = Checks.told("size 2 2;walker 1 0 east;walker 0 1 west;", "go;");
        Checks.law(walk, "wait;");
        Checks.law(walk, "if waited=1:go;");
        Checks.passage(walk, "size 2 2;walker 1 0 west;walker 0 1 east;");
        for (int times = 0; times < 2; times++) {
            for (int n = 0; n <= 8; n++) {
                int parts = 1 << 2 * n;
                edges.due("by the first LAW in " + n, walk.two(0, 0, n, 0), n >= 1 ? parts : 0);
                edges.due("by the second one in " + n, walk.two(0, 1, n, 0), 0);
                edges.due("by the third one in " + n, walk.two(0, 2, n, 0), n >= 2 ? parts : 0);
                edges.due("of the other PASSAGE in " + n, walk.two(1, 0, n, 0), n >= 2 ? parts : 0);
            }
        }
    }

    // Promises 19 to 21

    private static String row(int walkers) {
        StringBuilder text = new StringBuilder("size 16 6;");
        for (int w = 0; w < walkers; w++) {
            text.append("walker ").append(15 - w).append(" 0 east;");
        }
        return text.toString();
    }

    private void fullest() {
        edges.promise(19, "FULLEST by a SEED in n TENTHS, 1 .. 200.");
        PavementWalk walk = Checks.told(row(12), "go;");
        // The k th is out in TENTH k less 1, so that n TENTHS are enough for n of them.
        for (int n = 1; n <= 11; n++) {
            edges.due("n " + n, walk.fullest(0, 0, 1, n), n + 1);
        }
        edges.due("n 12", walk.fullest(0, 0, 1, 12), NONE);
        edges.due("n 200", walk.fullest(0, 0, 1, 200), NONE);
        PavementWalk last = Checks.told("size 16 1;walker 0 0 east;", "if waited=99:go;if waited<99:wait;go;");
        // 99 TENTHS go by ahead of each of his steps: in 200 two.
        edges.due("n 200 is not enough", last.fullest(0, 0, 1, 200), 1);
        PavementWalk two = Checks.told("size 2 1;walker 0 0 east;", "if waited=99:go;");
        edges.due("199 are not", two.fullest(0, 0, 1, 199), 1);
        edges.due("200 are", two.fullest(0, 0, 1, 200), NONE);
        edges.term("FULLEST: the least k so that the first k WALKERS alone have not all ARRIVED in n TENTHS.");
        PavementWalk alone = Checks.told("size 2 2;walker 1 0 east;walker 1 1 east;", "if near=1:go;");
        edges.due("one alone does not, two would", alone.fullest(0, 0, 1, 9), 1);
        PavementWalk friends = Checks.told("size 9 2;walker 0 0 east;walker 8 0 west;walker 0 1 east;friends 0 1;",
            "if parted:wait;if blocked:wait;go;");
        edges.due("a friend who is not among them", friends.fullest(0, 0, 1, 50), 2);
    }

    private void fullestRefused() {
        edges.promise(19, "NONE: all ARRIVE, there are no WALKERS, or there is none such (of any).");
        PavementWalk walk = Checks.told("size 2 1;walker 0 0 east;", "wait;");
        edges.due("he does not", walk.fullest(0, 0, 1, 1), 1);
        edges.dueAll("n", n -> walk.fullest(0, 0, 1, n), NONE, NO_TIMES);
        edges.dueAll("PASSAGE", k -> walk.fullest(k, 0, 1, 1), NONE, NO_SUCH);
        edges.dueAll("LAW", k -> walk.fullest(0, k, 1, 1), NONE, NO_SUCH);
        Checks.passage(walk, "size 2 1;");
        edges.due("no WALKERS", walk.fullest(1, 0, 1, 1), NONE);
        Checks.law(walk, "go;");
        edges.due("all ARRIVE", walk.fullest(0, 1, 1, 2), NONE);
    }

    private void pillar() {
        edges.promise(20, "PILLAR by a SEED in n TENTHS, 1 .. 100, as 100 * x and y.");
        PavementWalk last = Checks.told("size 16 6;walker 15 4 east;", NEEDS_WALL);
        edges.due("the last SQUARE", last.pillar(0, 0, 1, 1), 1505);
        edges.due("n 100", last.pillar(0, 0, 1, 100), 1505);
        PavementWalk first = Checks.told("size 16 6;walker 0 1 west;", NEEDS_WALL);
        edges.due("the first SQUARE", first.pillar(0, 0, 1, 1), 0);
        edges.term("PILLAR: the SQUARE (free at first) that, were it a WALL, would let most WALKERS ARRIVE in n "
            + "TENTHS, more than without it; of several the least x, then y.");
        PavementWalk slow = Checks.told("size 2 2;walker 1 0 east;", "if right=1:wait;if waited=99:go;");
        edges.due("99 TENTHS are not enough", slow.pillar(0, 0, 1, 99), NONE);
        edges.due("100 are", slow.pillar(0, 0, 1, 100), 101);
        PavementWalk either = Checks.told("size 2 3;walker 1 1 east;", "if right=1 and left=1:wait;go;");
        edges.due("of several the least y", either.pillar(0, 0, 1, 9), 100);
        PavementWalk ends = Checks.told("size 16 3;walker 15 1 east;walker 0 1 west;", "if left=1:wait;go;");
        edges.due("of several the least x", ends.pillar(0, 0, 1, 1), 2);
        // By the WALL 1 1 one goes; by the WALL 1 3 another one, who then leaves more room to the first.
        PavementWalk most = Checks.told("size 2 4;walker 1 0 east;walker 1 2 east;", NEEDS_WALL);
        edges.due("in one TENTH as many", most.pillar(0, 0, 1, 1), 101);
        edges.due("in two the most", most.pillar(0, 0, 1, 2), 103);
        PavementWalk taken = Checks.told("size 2 2;walker 1 0 east;haste 0 1;walker 1 1 east;",
            "if right=1:wait;if haste=1 and waited=0:wait;go;");
        edges.due("a SQUARE that is not free at first", taken.pillar(0, 0, 1, 20), NONE);
    }

    private void pillarRefused() {
        edges.promise(20, "NONE: there is none such (of any).");
        PavementWalk walk = Checks.told("size 2 2;walker 1 0 east;", NEEDS_WALL);
        edges.due("there is one", walk.pillar(0, 0, 1, 1), 101);
        edges.dueAll("n", n -> walk.pillar(0, 0, 1, n), NONE, NO_SHORT_TIMES);
        edges.dueAll("PASSAGE", k -> walk.pillar(k, 0, 1, 1), NONE, NO_SUCH);
        edges.dueAll("LAW", k -> walk.pillar(0, k, 1, 1), NONE, NO_SUCH);
        Checks.passage(walk, "size 2 2;");
        edges.due("no WALKERS", walk.pillar(1, 0, 1, 9), NONE);
        Checks.law(walk, "go;");
        edges.due("all ARRIVE without", walk.pillar(0, 1, 1, 9), NONE);
        Checks.passage(walk, "size 2 1;walker 0 0 east;wall 1 0;");
        edges.due("no free SQUARE", walk.pillar(2, 1, 1, 9), NONE);
        edges.dueRow("told as before", what -> walk.about(0, what), 2, 2, 1, 0);
    }

    private void cost() {
        edges.promise(21, "COST of a WALKER by a SEED in n TENTHS, 1 .. 200.");
        PavementWalk help = Checks.told("size 2 2;walker 1 0 east;walker 1 1 east;", "if near=1:go;");
        edges.due("without him the other one never goes", help.cost(0, 0, 1, 200, 0), 1 - 200);
        edges.due("n 1: one TENTH either way", help.cost(0, 0, 1, 1, 0), 0);
        edges.due("n 2", help.cost(0, 0, 1, 2, 1), 1 - 2);
        StringBuilder text = new StringBuilder("size 16 1;walker 0 0 east;");
        int out = 0;
        for (int w = 1; w < 12; w++) {
            text.append("walker ").append(w).append(" 0 west;");
            out += w + 1;
        }
        PavementWalk most = Checks.told(text.toString(), "go;");
        edges.due("all others stand for him", most.cost(0, 0, 1, 200, 0), 11 * 200 - out);
        edges.due("the last one costs nothing", most.cost(0, 0, 1, 200, 11), 0);
        edges.term("COST of a WALKER: TENTHS till they ARRIVE (that one too; n for those who don't in n) of all others "
            + "together, less the same without him.");
        PavementWalk late = Checks.told("size 4 1;walker 0 0 east;walker 1 0 east;haste 1 1;pace 1 2;", "go;");
        // Alone he is out in TENTH 3, behind the other one in TENTH 5 or later.
        PavementWalk run = Checks.running("size 4 1;walker 0 0 east;walker 1 0 east;haste 1 1;pace 1 2;", "go;", 1);
        run.go(50);
        int till = run.ran(0, 2) + 1;
        for (int n = 1; n <= 9; n++) {
            edges.due("n " + n, late.cost(0, 0, 1, n, 1), Math.min(n, till) - Math.min(n, 4));
        }
        // Without the first one all others have the next lesser number: what is told of them goes with them.
        String rest = "walker 3 1 east;walker 9 2 west;walker 4 0 east;walker 12 1 west;pace ? 3;late ? 3;"
            + "haste ? 9;hand ? left;friends ? !;";
        String law = "if parted:lot;if blocked:hand;if haste>5 and near<4:left;go;";
        String all = "size 16 3;walker 15 0 east;" + rest.replace('?', '2').replace('!', '4');
        String others = "size 16 3;" + rest.replace('?', '1').replace('!', '3');
        for (int seed = -3; seed < 4; seed++) {
            for (int n = 1; n < 60; n += 7) {
                edges.due("seed " + seed + " n " + n, Checks.told(all, law).cost(0, 0, seed, n, 0),
                    tenths(all, law, seed, n, 1) - tenths(others, law, seed, n, 0));
            }
        }
        PavementWalk alone = Checks.told("size 4 1;walker 0 0 east;", "go;");
        edges.due("no others", alone.cost(0, 0, 1, 200, 0), 0);
    }

    /** What a RUN shows of COST: the TENTHS of all WALKERS from one on, together. */
    private static int tenths(String passage, String law, int seed, int n, int from) {
        PavementWalk run = Checks.running(passage, law, seed);
        run.go(n);
        int sum = 0;
        for (int w = from; w < run.about(0, 2); w++) {
            sum += run.ran(w, 2) < 0 ? n : run.ran(w, 2) + 1;
        }
        return sum;
    }

    private void costRefused() {
        edges.promise(21, "-100000: there is none such (of any).");
        PavementWalk walk = Checks.told("size 2 1;walker 0 0 east;walker 1 0 east;", "go;");
        edges.due("there is one", walk.cost(0, 0, 1, 1, 1), 0);
        edges.dueAll("n", n -> walk.cost(0, 0, 1, n, 0), NO_COST, NO_TIMES);
        edges.dueAll("PASSAGE", k -> walk.cost(k, 0, 1, 1, 0), NO_COST, NO_SUCH);
        edges.dueAll("LAW", k -> walk.cost(0, k, 1, 1, 0), NO_COST, NO_SUCH);
        edges.dueAll("WALKER", w -> walk.cost(0, 0, 1, 1, w), NO_COST, 2, 11, 12, -1, LEAST, GREATEST);
        Checks.passage(walk, "size 2 1;");
        edges.due("no WALKERS", walk.cost(1, 0, 1, 1, 0), NO_COST);
        edges.due("told as before", walk.about(0, 2), 2);
    }

    // Promises 22 to 24

    private void better() {
        edges.promise(22, "BETTER, n 1 .. 200.");
        PavementWalk walk = Checks.told("size 2 2;walker 1 0 east;walker 0 1 east;", "wait;");
        edges.due("one LAW", walk.better(0, 1, 1), 0);
        Checks.law(walk, "if waited=99:go;");
        edges.due("n 1: none by both", walk.better(0, 1, 1), 0);
        edges.due("n 99: none by both", walk.better(0, 1, 99), 0);
        edges.due("n 100: one", walk.better(0, 1, 100), 1);
        Checks.law(walk, "if waited=99:go;if ahead<9 and waited<99:wait;");
        edges.due("n 200: both by both", walk.better(0, 1, 200), 1);
        edges.term("BETTER: of all LAWS that by which most WALKERS ARRIVE in n TENTHS; of several the least.");
        Checks.tell(walk, "go;");
        walk.law(2);
        edges.due("n 1: by the last one", walk.better(0, 1, 1), 2);
        edges.due("n 200: of several the least", walk.better(0, 1, 200), 1);
        Checks.tell(walk, "if ahead=9:go;");
        walk.law(0);
        edges.due("one against two", walk.better(0, 1, 2), 0);
        Checks.passage(walk, "size 2 2;");
        edges.due("no WALKERS", walk.better(1, 1, 9), 0);
    }

    private void betterRefused() {
        edges.promise(22, "NONE: there are no LAWS, or there is none such (of any).");
        PavementWalk none = new PavementWalk();
        Checks.passage(none, "size 2 2;walker 1 0 east;");
        edges.due("no LAWS", none.better(0, 1, 9), NONE);
        Checks.law(none, "if");
        edges.due("a LAW with a FAULT is none", none.better(0, 1, 9), NONE);
        PavementWalk walk = Checks.told("size 2 2;walker 1 0 east;", "go;");
        edges.dueAll("n", n -> walk.better(0, 1, n), NONE, NO_TIMES);
        edges.dueAll("PASSAGE", k -> walk.better(k, 1, 9), NONE, NO_SUCH);
    }

    private void flow() {
        edges.promise(23, "FLOW, n 1 .. 200.");
        PavementWalk walk = Checks.told(row(12), "go;");
        // One in each of the TENTHS 0 to 11.
        for (int n = 1; n <= 14; n++) {
            edges.due("n " + n, walk.flow(0, 0, 1, n), Math.min(n, 10));
        }
        edges.due("n 200", walk.flow(0, 0, 1, 200), 10);
        PavementWalk late = Checks.told("size 2 1;walker 0 0 east;", "if waited=99:go;");
        edges.due("n 199", late.flow(0, 0, 1, 199), 0);
        edges.due("n 200, in the last TENTH", late.flow(0, 0, 1, 200), 1);
        edges.term("FLOW: the most that ARRIVE in 10 TENTHS behind one another, of the first n.");
        for (int x = 4; x <= 8; x++) {
            PavementWalk two = Checks.told("size 16 2;walker 15 0 east;walker " + x + " 1 east;", "go;");
            edges.due("in 0 and " + (15 - x), two.flow(0, 0, 1, 50), x >= 6 ? 2 : 1);
        }
        PavementWalk three = Checks.told("size 16 3;walker 15 0 east;walker 5 1 east;walker 4 2 east;", "go;");
        edges.due("in 10 and 11", three.flow(0, 0, 1, 50), 2);
        edges.due("in 10 alone", three.flow(0, 0, 1, 11), 1);
        edges.promise(23, "NONE: there is none such (of any).");
        edges.dueAll("n", n -> walk.flow(0, 0, 1, n), NONE, NO_TIMES);
        edges.dueAll("PASSAGE", k -> walk.flow(k, 0, 1, 9), NONE, NO_SUCH);
        edges.dueAll("LAW", k -> walk.flow(0, k, 1, 9), NONE, NO_SUCH);
        edges.due("no WALKERS", Checks.told("size 2 1;", "go;").flow(0, 0, 1, 9), 0);
    }

    private void touch() {
        edges.promise(24, "TOUCH, n 1 .. 200.");
        PavementWalk walk = Checks.told("size 9 2;walker 0 0 east;walker 8 0 west;walker 8 1 west;", "go;");
        edges.due("n 1, as TENTH 0 begins", walk.touch(0, 0, 1, 1, 1, 2), 0);
        edges.due("b ahead of a", walk.touch(0, 0, 1, 1, 2, 1), 0);
        PavementWalk late = Checks.told("size 9 1;walker 0 0 east;walker 3 0 west;haste 1 1;",
            "if waited=99 and haste=1:go;");
        edges.due("n 100, in none", late.touch(0, 0, 1, 100, 0, 1), NONE);
        edges.due("n 199, in none", late.touch(0, 0, 1, 199, 0, 1), NONE);
        edges.due("n 200, in none", late.touch(0, 0, 1, 200, 0, 1), NONE);
        PavementWalk last = Checks.told("size 9 1;walker 0 0 east;walker 3 0 west;haste 1 1;",
            "if waited=98 and haste=1:go;");
        edges.due("two steps are made in 198", last.touch(0, 0, 1, 198, 0, 1), NONE);
        edges.due("n 199", last.touch(0, 0, 1, 199, 0, 1), 198);
        edges.due("n 200", last.touch(0, 0, 1, 200, 0, 1), 198);
        edges.term("TOUCH of two WALKERS: the first TENTH, below n, as which begins they are 1 apart (|dx| + |dy|).");
        // Face to face they are 8, 6, 4, 2 apart, then both BUMP but for one.
        edges.due("below 4", walk.touch(0, 0, 1, 4, 0, 1), NONE);
        edges.due("in 4", walk.touch(0, 0, 1, 5, 0, 1), 4);
        edges.due("it stays the first one", walk.touch(0, 0, 1, 200, 0, 1), 4);
        PavementWalk aslant = Checks.told("size 9 2;walker 3 0 east;walker 4 1 east;", "wait;");
        edges.due("aslant is 2 apart", aslant.touch(0, 0, 1, 9, 0, 1), NONE);
        PavementWalk beside = Checks.told("size 9 2;walker 3 0 east;walker 3 1 east;", "wait;");
        edges.due("beside is 1", beside.touch(0, 0, 1, 9, 0, 1), 0);
    }

    private void touchRefused() {
        edges.promise(24, "NONE: in none, they are one, or there is none such (of any).");
        PavementWalk walk = Checks.told("size 9 2;walker 3 0 east;walker 3 1 east;walker 4 0 east;", "wait;");
        edges.dueAll("n", n -> walk.touch(0, 0, 1, n, 0, 1), NONE, NO_TIMES);
        edges.dueAll("PASSAGE", k -> walk.touch(k, 0, 1, 9, 0, 1), NONE, NO_SUCH);
        edges.dueAll("LAW", k -> walk.touch(0, k, 1, 9, 0, 1), NONE, NO_SUCH);
        int[] bad = {3, 11, 12, -1, -2, LEAST, GREATEST};
        edges.dueAll("a", w -> walk.touch(0, 0, 1, 9, w, 1), NONE, bad);
        edges.dueAll("b", w -> walk.touch(0, 0, 1, 9, 0, w), NONE, bad);
        edges.dueAll("both", w -> walk.touch(0, 0, 1, 9, w, w), NONE, bad);
        edges.dueAll("they are one", w -> walk.touch(0, 0, 1, 9, w, w), NONE, 0, 1, 2);
        edges.due("in none", walk.touch(0, 0, 1, 9, 1, 2), NONE);
        PavementWalk out = Checks.told("size 2 1;walker 1 0 east;walker 0 0 west;", "if waited=0:wait;go;");
        edges.due("ahead of ARRIVING", out.touch(0, 0, 1, 9, 0, 1), 0);
        PavementWalk gone = Checks.told("size 3 2;walker 2 0 east;walker 0 1 east;walker 0 0 west;", "go;");
        edges.due("one is out", gone.touch(0, 0, 1, 50, 0, 1), NONE);
        edges.due("the other one is", gone.touch(0, 0, 1, 50, 1, 0), NONE);
        edges.due("both are out", gone.touch(0, 0, 1, 50, 0, 2), NONE);
    }

    // Promises 25 to 27

    private void slack() {
        edges.promise(25, "SLACK, n 1 .. 200.");
        // 1 leaves in TENTH 0; with LATE late 0 sees him till TENTH late and goes in the next two.
        PavementWalk walk = Checks.told("size 2 2;walker 0 0 east;late 0 2;walker 0 1 west;haste 1 1;",
            "if haste=1:go;if near<9:wait;go;");
        for (int n = 1; n <= 9; n++) {
            edges.due("n " + n, walk.slack(0, 0, 1, n, 0), n < 3 ? NONE : Math.min(3, n - 3));
        }
        edges.due("n 200", walk.slack(0, 0, 1, 200, 0), 3);
        PavementWalk last = Checks.told("size 2 1;walker 0 0 east;", "if waited=99:go;");
        edges.due("199 are not enough", last.slack(0, 0, 1, 199, 0), NONE);
        edges.due("200 are", last.slack(0, 0, 1, 200, 0), 3);
        PavementWalk one = Checks.told("size 2 1;walker 1 0 east;", "go;");
        edges.due("1 is enough", one.slack(0, 0, 1, 1, 0), 3);
        edges.term("SLACK of a WALKER: the greatest LATE, 0 .. 3, with which (in place of his) all ARRIVE in n "
            + "TENTHS.");
        edges.due("of 1, with 0's LATE as it is, n 4", walk.slack(0, 0, 1, 4, 1), NONE);
        edges.due("of 1, with 0's LATE as it is, n 5", walk.slack(0, 0, 1, 5, 1), 3);
        edges.due("told as before", walk.walker(0, 0, 4), 2);
        PavementWalk gap = Checks.told("size 4 1;walker 0 0 east;walker 1 0 east;", "if near=1:wait;go;");
        edges.due("with none", gap.slack(0, 0, 1, 200, 0), NONE);
    }

    private void slackRefused() {
        edges.promise(25, "NONE: with none, or there is none such (of any).");
        PavementWalk walk = Checks.told("size 2 1;walker 1 0 east;walker 0 0 west;", "go;");
        edges.due("with 3", walk.slack(0, 0, 1, 1, 1), 3);
        edges.dueAll("n", n -> walk.slack(0, 0, 1, n, 0), NONE, NO_TIMES);
        edges.dueAll("PASSAGE", k -> walk.slack(k, 0, 1, 9, 0), NONE, NO_SUCH);
        edges.dueAll("LAW", k -> walk.slack(0, k, 1, 9, 0), NONE, NO_SUCH);
        edges.dueAll("WALKER", w -> walk.slack(0, 0, 1, 9, w), NONE, 2, 11, 12, -1, LEAST, GREATEST);
        Checks.passage(walk, "size 2 1;");
        edges.due("no WALKERS", walk.slack(1, 0, 1, 9, 0), NONE);
        Checks.law(walk, "wait;");
        edges.due("with none", walk.slack(0, 1, 1, 9, 0), NONE);
    }

    private void opened() {
        edges.promise(26, "OPENED, n 1 .. 100, as 100 * x and y.");
        PavementWalk first = Checks.told("size 16 6;walker 1 0 west;wall 0 0;wall 15 5;", "go;");
        edges.due("the first SQUARE", first.opened(0, 0, 1, 2), 0);
        edges.due("one TENTH is not enough", first.opened(0, 0, 1, 1), NONE);
        edges.due("n 100", first.opened(0, 0, 1, 100), 0);
        PavementWalk last = Checks.told("size 16 6;walker 14 5 east;wall 0 0;wall 15 5;", "go;");
        edges.due("the last SQUARE", last.opened(0, 0, 1, 2), 1505);
        PavementWalk out = Checks.told("size 2 2;walker 1 0 east;wall 1 1;", "if right=0:wait;go;");
        edges.due("n 1", out.opened(0, 0, 1, 1), 101);
        PavementWalk slow = Checks.told("size 2 2;walker 1 0 east;wall 1 1;", "if right=0:wait;if waited=99:go;");
        edges.due("99 TENTHS are not enough", slow.opened(0, 0, 1, 99), NONE);
        edges.due("100 are", slow.opened(0, 0, 1, 100), 101);
        edges.term("OPENED: the WALL without which most ARRIVE in n TENTHS, more than with it; of several the least x, "
            + "then y.");
        PavementWalk rows = Checks.told("size 9 3;wall 5 0;wall 4 1;wall 4 2;walker 0 0 east;walker 0 1 east;"
            + "walker 0 2 east;", "go;");
        edges.due("of several the least x, then y", rows.opened(0, 0, 1, 50), 401);
        PavementWalk most = Checks.told("size 9 2;wall 4 0;wall 5 1;walker 0 0 east;walker 0 1 east;"
            + "walker 1 1 east;", "go;");
        edges.due("more in the later one", most.opened(0, 0, 1, 50), 501);
        edges.due("as many by then", most.opened(0, 0, 1, 9), 400);
    }

    private void openedRefused() {
        edges.promise(26, "NONE: there is none such (of any).");
        PavementWalk walk = Checks.told("size 3 1;walker 1 0 west;wall 0 0;", "go;");
        edges.due("there is one", walk.opened(0, 0, 1, 2), 0);
        edges.dueAll("n", n -> walk.opened(0, 0, 1, n), NONE, NO_SHORT_TIMES);
        edges.dueAll("PASSAGE", k -> walk.opened(k, 0, 1, 9), NONE, NO_SUCH);
        edges.dueAll("LAW", k -> walk.opened(0, k, 1, 9), NONE, NO_SUCH);
        edges.due("told as before", walk.about(0, 3), 1);
        Checks.passage(walk, "size 2 1;wall 0 0;wall 1 0;");
        edges.due("no WALKERS", walk.opened(1, 0, 1, 9), NONE);
        Checks.passage(walk, "size 2 1;walker 0 0 west;");
        edges.due("no WALLS", walk.opened(2, 0, 1, 9), NONE);
        Checks.tell(walk, "size 3 1;walker 0 0 west;wall 2 0;");
        walk.passage(2);
        edges.due("all ARRIVE with it", walk.opened(2, 0, 1, 9), NONE);
    }

    private void fits() {
        edges.promise(27, "FITS.");
        PavementWalk walk = Checks.told("size 16 6;walker 0 3 east;", "go;");
        edges.due("no HATS", walk.fits(0, 0, 1), 0);
        for (int f = 0; f < 8; f++) {
            walk.hat(f, f, 3);
            edges.due("FRAMES to " + f, walk.fits(0, 0, 1), f + 1);
        }
        edges.term("FITS: in how many of FRAMES 0 .. 7 that have HATS these are just the SQUARES of those who are "
            + "there as that TENTH begins.");
        walk.hat(0, 1, 3);
        walk.hat(7, 99, 99);
        edges.due("a HAT more", walk.fits(0, 0, 1), 6);
        PavementWalk six = Checks.told("size 16 6;walker 0 0 east;walker 0 1 east;walker 0 2 east;walker 0 3 east;"
            + "walker 0 4 east;walker 0 5 east;", "wait;");
        for (int y = 0; y < 6; y++) {
            edges.due("a WALKER more", six.fits(0, 0, 1), 0);
            six.hat(0, 0, y);
        }
        edges.due("just these", six.fits(0, 0, 1), 1);
        for (int y = 1; y < 6; y++) {
            six.hat(5, 0, y);
        }
        edges.due("the first WALKER is missing", six.fits(0, 0, 1), 1);
        Checks.passage(six, "size 16 6;walker 0 0 east;walker 0 1 east;walker 0 2 east;walker 0 3 east;"
            + "walker 0 4 east;walker 0 5 east;walker 1 1 east;");
        edges.due("a 7th WALKER", six.fits(1, 0, 1), 0);
        PavementWalk out = Checks.told("size 2 1;walker 1 0 east;", "go;");
        out.hat(1, 1, 0);
        edges.due("he is out", out.fits(0, 0, 1), 0);
        edges.due("no HATS where nobody is", Checks.told("size 2 1;", "go;").fits(0, 0, 1), 0);
        edges.promise(27, "NONE: there is none such (of either).");
        edges.dueAll("PASSAGE", k -> walk.fits(k, 0, 1), NONE, NO_SUCH);
        edges.dueAll("LAW", k -> walk.fits(0, k, 1), NONE, NO_SUCH);
    }

    /** Each begins by its own SEED, whatever the RUN has drawn; the RUN shows what comes of it. */
    private void seeds() {
        edges.term("All by a SEED");
        String passage = "size 3 6;walker 0 3 east;walker 2 2 west;wall 1 1;";
        String law = "if left=0:go;if blocked:lot;if right>1:lot;if waited=0:lot;go;";
        PavementWalk walk = Checks.running(passage, law, 99);
        walk.go(7);
        for (int seed : new int[] {0, 1, -1, 5, LEAST, LEAST + 7, GREATEST, GREATEST - 7, 65536, -65537}) {
            for (int n : new int[] {1, 2, 5, 11, 30}) {
                int arrived = arrivedOf(passage, law, seed, n);
                int first = arrivedOf("size 3 6;walker 0 3 east;wall 1 1;", law, seed, n);
                String by = " by " + seed + " in " + n;
                edges.due("FLOW" + by, n > 10 || walk.flow(0, 0, seed, n) == arrived, true);
                edges.due("BETTER" + by, walk.better(0, seed, n), 0);
                edges.due("FULLEST" + by, walk.fullest(0, 0, seed, n), first == 0 ? 1 : arrived < 2 ? 2 : NONE);
                int slack = NONE;
                for (int late = 0; late <= 3; late++) {
                    slack = arrivedOf(passage + "late 0 " + late + ";", law, seed, n) == 2 ? late : slack;
                }
                edges.due("SLACK" + by, walk.slack(0, 0, seed, n, 0), slack);
            }
        }
        edges.due("the RUN goes on from where it was", walk.state(0), 7);
    }

    private static int arrivedOf(String passage, String law, int seed, int n) {
        PavementWalk run = Checks.running(passage, law, seed);
        run.go(n);
        return run.state(1);
    }
}
