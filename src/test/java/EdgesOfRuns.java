/** Promises 10 to 17, and of Terms 2 and 3 how a TENTH passes and what is seen of a RUN. */
final class EdgesOfRuns {
    private static final int NONE = PavementWalk.NONE;
    private static final int NO_SUCH = -2;
    private static final int LEAST = Integer.MIN_VALUE;
    private static final int GREATEST = Integer.MAX_VALUE;

    private final Edges edges;

    EdgesOfRuns(Edges edges) {
        this.edges = edges;
    }

    void test() {
        runBegins();
        runRefused();
        go();
        goRefused();
        ran();
        ranRefused();
        finds();
        does();
        on();
        state();
        door();
        paces();
        rules();
        asTheTenthBegins();
        lots();
        lotsByNumbers();
        order();
        arriving();
        bumping();
        standing();
        dances();
        lanes();
        steps();
    }

    /** The RUN's state and all of its WALKERS: it must stay as it is. */
    private static int[] all(PavementWalk walk) {
        int[] all = new int[7 + 12 * 7 + 15 * 3];
        int at = 0;
        for (int what = 0; what < 7; what++) {
            all[at++] = walk.state(what);
            for (int w = 0; w < 12; w++) {
                all[at++] = walk.ran(w, what);
            }
        }
        for (int k = 0; k < 45; k++) {
            all[at++] = walk.door(k / 3, k % 3);
        }
        return all;
    }

    private void stays(String call, PavementWalk walk, int[] before) {
        int[] now = all(walk);
        int others = 0;
        for (int k = 0; k < now.length; k++) {
            others += now[k] == before[k] ? 0 : 1;
        }
        edges.due(call + " changes nothing", others, 0);
    }

    // Promises 10 to 17

    private void runBegins() {
        edges.promise(10, "A RUN begins (in place of another one): true");
        PavementWalk walk = Checks.told("size 6 2;walker 1 0 east;walker 3 0 west;late 0 3;pace 1 2;",
            "if waited=12:go;if right>0:lot;if near<3:left;go;");
        Checks.passage(walk, "size 2 1;");
        Checks.law(walk, "");
        edges.due("the first one", walk.run(0, 0, 7), true);
        int[] first = all(walk);
        walk.go(50);
        int[] later = all(walk);
        edges.due("another one", walk.run(0, 0, 7), true);
        stays("the same RUN anew", walk, first);
        walk.go(50);
        stays("50 TENTHS of it", walk, later);
        edges.due("of no WALKERS, by no RULES", walk.run(1, 1, 0), true);
        edges.dueRow("state", walk::state, 0, 0, 0, 0, 0, 0, 0);
        edges.due("no WALKER", walk.ran(0, 0), NO_SUCH);
        edges.due("its last DOOR", walk.door(0, 0), 0);
        edges.due("no further DOOR", walk.door(1, 0), NONE);
    }

    private void runRefused() {
        edges.promise(10, "false: there is no such PASSAGE, LAW.");
        PavementWalk walk = new PavementWalk();
        Checks.passage(walk, "size 6 2;walker 1 0 east;");
        edges.due("no LAW", walk.run(0, 0, 1), false);
        PavementWalk laws = new PavementWalk();
        Checks.law(laws, "go;");
        edges.due("no PASSAGE", laws.run(0, 0, 1), false);
        Checks.law(walk, "go;");
        int[] bad = {1, 2, 3, -1, -2, LEAST, GREATEST};
        for (int k : bad) {
            edges.due("PASSAGE " + k, walk.run(k, 0, 1), false);
            edges.due("LAW " + k, walk.run(0, k, 1), false);
            edges.due("there is no RUN", walk.state(0), NONE);
        }
        walk.run(0, 0, 1);
        walk.go(2);
        int[] before = all(walk);
        for (int k : bad) {
            edges.due("PASSAGE " + k, walk.run(k, 0, 1), false);
            edges.due("LAW " + k, walk.run(0, k, 1), false);
            stays("a RUN refused", walk, before);
        }
    }

    private void go() {
        edges.promise(11, "n TENTHS, 0 .. 200: how many moved in them, all together (ARRIVED ones, too).");
        PavementWalk walk = Checks.running("size 5 2;walker 0 0 east;walker 0 1 west;", "go;", 1);
        int[] first = all(walk);
        edges.due("go(0)", walk.go(0), 0);
        stays("go(0)", walk, first);
        edges.due("go(1): one goes, one goes out", walk.go(1), 2);
        edges.due("go(3)", walk.go(3), 3);
        edges.due("go(200): the last one goes out", walk.go(200), 1);
        edges.due("the TENTH", walk.state(0), 204);
        edges.due("go(200): nobody is there", walk.go(200), 0);
        edges.due("the TENTH", walk.state(0), 404);
        edges.due("both ARRIVED", walk.state(1), 2);
        PavementWalk dance = Checks.running("size 2 2;walker 0 0 east;walker 1 1 east;",
            "if right>0:right;left;", 1);
        edges.due("two of 200 TENTHS", dance.go(200), 400);
        PavementWalk none = Checks.running("size 2 2;", "go;", 1);
        edges.due("nobody of 200 TENTHS", none.go(200), 0);
        edges.due("the TENTH", none.state(0), 200);
    }

    private void goRefused() {
        edges.promise(11, "NONE: there is no RUN, or another number.");
        PavementWalk none = Checks.told("size 5 2;walker 0 0 east;", "go;");
        edges.dueAll("go without a RUN", none::go, NONE, 0, 1, 200, 201, -1);
        PavementWalk walk = Checks.running("size 5 2;walker 0 0 east;", "go;", 1);
        int[] before = all(walk);
        edges.dueAll("go", walk::go, NONE, 201, 202, -1, LEAST, GREATEST);
        stays("a refused go", walk, before);
    }

    private void ran() {
        edges.promise(12, "Of a WALKER of the RUN, what 0: x, 1: y (NONE: ARRIVED), 2: the TENTH in which he "
            + "ARRIVED (NONE: not), 3: how often he moved, 4: how often he moved sideways, 5: how often he "
            + "BUMPED, 6: waited.");
        PavementWalk walk = Checks.running("size 4 2;walker 2 0 east;walker 0 0 west;walker 0 1 east;wall 1 1;",
            "if haste=0 and right>0 and ahead>3:right;go;", 1);
        edges.dueRow("0 at first", what -> walk.ran(0, what), 2, 0, NONE, 0, 0, 0, 0);
        walk.go(1);
        edges.dueRow("0 went to the right", what -> walk.ran(0, what), 2, 1, NONE, 1, 1, 0, 0);
        edges.dueRow("1 ARRIVED in 0", what -> walk.ran(1, what), NONE, NONE, 0, 1, 0, 0, 0);
        edges.dueRow("2 BUMPED", what -> walk.ran(2, what), 0, 1, NONE, 0, 0, 1, 1);
        walk.go(2);
        edges.dueRow("0 ARRIVED in 2", what -> walk.ran(0, what), NONE, NONE, 2, 3, 1, 0, 0);
        edges.dueRow("1 is out", what -> walk.ran(1, what), NONE, NONE, 0, 1, 0, 0, 2);
        edges.dueRow("2 BUMPED", what -> walk.ran(2, what), 0, 1, NONE, 0, 0, 3, 3);
        walk.go(200);
        edges.dueRow("2 BUMPED", what -> walk.ran(2, what), 0, 1, NONE, 0, 0, 203, 99);
    }

    private void ranRefused() {
        edges.promise(12, "-2: there is none such (of any), or for another what.");
        PavementWalk none = Checks.told("size 4 2;walker 2 0 east;", "go;");
        edges.dueAll("without a RUN", what -> none.ran(0, what), NO_SUCH, 0, 1, 2, 3, 4, 5, 6, 7);
        PavementWalk walk = Checks.running("size 4 2;walker 2 0 east;walker 0 0 east;", "go;", 1);
        walk.go(3);
        edges.dueAll("another what", what -> walk.ran(1, what), NO_SUCH, 7, 8, -1, -2, LEAST, GREATEST);
        edges.dueAll("of one who ARRIVED", what -> walk.ran(0, what), NO_SUCH, 7, -1);
        edges.dueAll("no WALKER", w -> walk.ran(w, 3), NO_SUCH, 2, 3, 11, 12, -1, LEAST, GREATEST);
        Checks.passage(walk, "size 9 1;walker 0 0 east;walker 1 0 east;walker 2 0 east;");
        edges.due("of the RUN's PASSAGE", walk.ran(2, 3), NO_SUCH);
    }

    private void finds() {
        edges.promise(13, "What a WALKER of the RUN who is there finds as the TENTH begins, what 0: ahead, "
            + "1: soon, 2: near, 3: right, 4: left, 5: waited, 6: haste, 7: crowd, 8: 1 if blocked, 9: facing, "
            + "10: parted, else 0.");
        PavementWalk walk = Checks.running("size 9 3;walker 0 1 east;haste 0 7;walker 5 1 west;pace 1 3;"
            + "wall 0 2;friends 0 1;walker 1 0 west;", "wait;", 1);
        edges.dueRow("0", w -> walk.finds(0, w), 4, 4 * 3 / 4, 2, 0, 1, 0, 7, 1, 0, 1, 1);
        walk.go(5);
        edges.dueRow("0 later", w -> walk.finds(0, w), 4, 3, 2, 0, 1, 5, 7, 1, 0, 1, 1);
        PavementWalk alone = Checks.running("size 2 1;walker 1 0 east;", "wait;", 1);
        edges.dueRow("alone", w -> alone.finds(0, w), 9, 99, 99, 0, 0, 0, 0, 0, 0, 0, 0);
        PavementWalk wall = Checks.running("size 2 1;walker 1 0 west;wall 0 0;", "wait;", 1);
        edges.dueRow("at a WALL", w -> wall.finds(0, w), 0, 99, 99, 0, 0, 0, 0, 0, 1, 0, 0);
        edges.promise(13, "-2: there is none such (of any), or for another what.");
        edges.dueAll("another what", what -> walk.finds(0, what), NO_SUCH, 11, 12, -1, -2, LEAST, GREATEST);
        edges.dueAll("no WALKER", w -> walk.finds(w, 0), NO_SUCH, 3, 12, -1, LEAST, GREATEST);
        PavementWalk out = Checks.running("size 2 1;walker 1 0 east;", "go;", 1);
        edges.due("there yet", out.finds(0, 0), 9);
        out.go(1);
        edges.dueAll("of one who ARRIVED", what -> out.finds(0, what), NO_SUCH, 0, 1, 5, 6, 10, 11);
        PavementWalk none = Checks.told("size 2 1;walker 1 0 east;", "go;");
        edges.dueAll("without a RUN", what -> none.finds(0, what), NO_SUCH, 0, 5, 10, 11);
    }

    private void does() {
        edges.promise(14, "What he does in this TENTH: 0 go, 1 right, 2 left, 3 hand, 4 lot, 5 wait (also if his "
            + "PACE does not divide it), by the RULE alone.");
        PavementWalk walk = Checks.running("size 9 6;walker 0 0 east;haste 0 1;walker 0 1 east;haste 1 2;"
            + "walker 0 2 east;haste 2 3;walker 0 3 east;haste 3 4;hand 3 left;walker 0 4 east;haste 4 5;"
            + "walker 0 5 east;", "if haste=1:go;if haste=2:right;if haste=3:left;if haste=4:hand;"
            + "if haste=5:lot;if haste=0:wait;go;", 1);
        edges.dueRow("does", walk::does, 0, 1, 2, 3, 4, 5);
        edges.dueRow("once more", walk::does, 0, 1, 2, 3, 4, 5);
        edges.due("no lot is drawn", walk.state(6), 0);
        PavementWalk paced = Checks.running("size 16 1;walker 0 0 east;pace 0 4;", "go;", 1);
        for (int t = 0; t < 9; t++) {
            edges.due("PACE 4 at " + t, paced.does(0), t % 4 == 0 ? 0 : 5);
            paced.go(1);
        }
        PavementWalk bumps = Checks.running("size 2 1;walker 0 0 east;wall 1 0;", "go;", 1);
        edges.due("what he does, not what comes of it", bumps.does(0), 0);
        edges.promise(14, "NONE: he is not there, or there is none such (of any).");
        PavementWalk out = Checks.running("size 2 1;walker 1 0 east;walker 0 0 east;", "go;", 1);
        out.go(2);
        edges.due("he ARRIVED", out.does(0), NONE);
        edges.dueAll("no WALKER", out::does, NONE, 2, 12, -1, LEAST, GREATEST);
        PavementWalk none = Checks.told("size 2 1;walker 1 0 east;", "go;");
        edges.due("without a RUN", none.does(0), NONE);
    }

    private void on() {
        edges.promise(15, "Who stands on a SQUARE in the RUN; 100 a WALL.");
        StringBuilder text = new StringBuilder("size 16 6;wall 0 5;wall 15 0;");
        for (int w = 0; w < 12; w++) {
            text.append("walker ").append(w).append(" 0 east;");
        }
        PavementWalk walk = Checks.running(text.toString(), "if left=0 and ahead>8:right;", 1);
        edges.dueRow("row 0, x", x -> walk.on(x, 0), 0, 1, 2, 3, 4, 5, 6, 7, 8, 9, 10, 11, NONE, NONE, NONE, 100);
        edges.due("the other WALL", walk.on(0, 5), 100);
        walk.go(1);
        PavementWalk out = Checks.running("size 2 1;walker 1 0 east;walker 0 0 east;", "go;", 1);
        edges.promise(15, "NONE: nobody, or there is none such (of any).");
        edges.due("nobody", walk.on(15, 5), NONE);
        edges.dueAll("x", x -> walk.on(x, 0), NONE, 16, 17, -1, LEAST, GREATEST);
        edges.dueAll("y", y -> walk.on(0, y), NONE, 6, 7, -1, LEAST, GREATEST);
        out.go(3);
        edges.dueRow("both ARRIVED", x -> out.on(x, 0), NONE, NONE, NONE);
        edges.due("who ARRIVED stands nowhere", out.on(-1, -1), NONE);
        PavementWalk none = Checks.told("size 2 1;walker 1 0 east;wall 0 0;", "go;");
        edges.due("without a RUN", none.on(1, 0), NONE);
        edges.due("no WALL without a RUN", none.on(0, 0), NONE);
    }

    private void state() {
        edges.promise(16, "Of the RUN, what 0: the TENTH, 1: how many ARRIVED, 2: 1 if it STANDS, else 0, "
            + "3: DANCES, 4: LANES, 5: MIXED rows, 6: lots drawn.");
        PavementWalk walk = Checks.running("size 6 3;walker 1 0 east;walker 3 0 west;walker 5 2 east;",
            "if haste=0 and right=2:lot;if left=1:left;if right=1:right;go;", 1);
        edges.dueRow("at first", walk::state, 0, 0, 0, 0, 1, 1, 0);
        walk.go(20);
        edges.due("TENTH", walk.state(0), 20);
        PavementWalk dance = Checks.running("size 6 2;walker 1 0 east;walker 3 0 west;",
            "if right>0:right;left;", 1);
        dance.go(1);
        edges.dueRow("a DANCE", dance::state, 1, 0, 0, 1, 0, 1, 0);
        PavementWalk empty = Checks.running("size 6 2;", "go;", 1);
        edges.dueRow("nobody", empty::state, 0, 0, 0, 0, 0, 0, 0);
        empty.go(10);
        edges.dueRow("nobody, ten TENTHS", empty::state, 10, 0, 1, 0, 0, 0, 0);
        edges.promise(16, "NONE: there is none, or for another what.");
        edges.dueAll("another what", walk::state, NONE, 7, 8, -1, -2, LEAST, GREATEST);
        PavementWalk none = Checks.told("size 6 2;", "go;");
        edges.dueAll("without a RUN", none::state, NONE, 0, 1, 2, 3, 4, 5, 6, 7);
    }

    private void door() {
        edges.promise(17, "DOOR x of the RUN, 0 to LENGTH less 2, what 0: TURNS, 1: LONGEST, 2: how many steps in "
            + "all.");
        PavementWalk most = Checks.running("size 16 1;walker 0 0 east;", "go;", 1);
        for (int x = 0; x < 15; x++) {
            int door = x;
            edges.dueRow("ahead of it " + x, what -> most.door(door, what), 0, 0, 0);
            most.go(1);
            edges.dueRow("behind it " + x, what -> most.door(door, what), 1, 1, 1);
        }
        most.go(1);
        edges.due("out is no DOOR", most.door(14, 2), 1);
        PavementWalk least = Checks.running("size 2 1;walker 1 0 west;", "go;", 1);
        least.go(2);
        edges.dueRow("the only one", what -> least.door(0, what), 1, 1, 1);
        edges.promise(17, "NONE: there is none such (of any), or for another what.");
        edges.dueAll("of LENGTH 16", x -> most.door(x, 0), NONE, 15, 16, -1, -2, LEAST, GREATEST);
        edges.dueAll("of LENGTH 2", x -> least.door(x, 2), NONE, 1, 2, 14, 15, -1);
        edges.dueAll("another what", what -> least.door(0, what), NONE, 3, 4, -1, LEAST, GREATEST);
        PavementWalk none = Checks.told("size 2 1;walker 1 0 west;", "go;");
        edges.dueRow("without a RUN", what -> none.door(0, what), NONE, NONE, NONE, NONE);
    }

    // Terms 2 and 3

    private void paces() {
        edges.term("In a TENTH each WALKER who is there and whose PACE divides it ACTS");
        PavementWalk walk = Checks.running("size 16 4;walker 0 0 east;walker 0 1 east;walker 0 2 east;"
            + "walker 0 3 east;pace 1 2;pace 2 3;pace 3 4;", "go;", 1);
        for (int t = 0; t < 13; t++) {
            for (int w = 0; w < 4; w++) {
                edges.due("x of PACE " + (w + 1) + " at " + t, walk.ran(w, 0), (t + w) / (w + 1));
            }
            walk.go(1);
        }
    }

    private void rules() {
        edges.term("by the first RULE whose TESTS all hold (none: wait)");
        String one = "size 9 3;walker 0 1 east;";
        int[] due = {5, 5, 5, 0, 2, 1, 5, 0};
        String[] laws = {"", "if blocked:go;", "if ahead=9 and ahead<9:go;", "go;left;", "if left=2:go;left;go;",
            "if left=1 and right=1 and waited=0 and haste=0:right;go;",
            "if left=1 and right=1 and waited=0 and haste>0:right;",
            "if not left=1 and not blocked:right;if not blocked and not facing:go;"};
        for (int k = 0; k < laws.length; k++) {
            edges.due(laws[k], Checks.running(one, laws[k], 1).does(0), due[k]);
        }
        String[] bounds = {"if left<1:go;", "if left<2:go;", "if left>1:go;", "if left>0:go;", "if left=1:go;",
            "if left=0:go;", "if ahead>9:go;", "if ahead>8:go;", "if soon<99:go;", "if soon>98:go;"};
        for (int k = 0; k < bounds.length; k++) {
            edges.due(bounds[k], Checks.running(one, bounds[k], 1).does(0), k == 4 || k < 4 && k % 2 == 1
                || k > 5 && k % 2 == 1 ? 0 : 5);
        }
        edges.due("15 that don't hold", Checks.running(one, "if blocked:go;".repeat(15) + "left;", 1).does(0), 2);
    }

    private void asTheTenthBegins() {
        edges.term("all by what is so as the TENTH begins.");
        PavementWalk walk = Checks.running("size 9 1;walker 0 0 east;walker 1 0 east;haste 1 9;",
            "if blocked:wait;go;", 1);
        edges.due("0 found 1 ahead", walk.go(1), 1);
        edges.due("0 is where he was", walk.ran(0, 0), 0);
        edges.due("he goes in the next", walk.go(1), 2);
    }

    /** By numbers without a wrap-around: what 32 bits leave of them. */
    private void lots() {
        edges.term("lot: x becomes x * 1103515245 + 12345 (of 32 bits); is x shifted right by 16 even, the right, "
            + "else the left one");
        for (int seed : new int[] {0, 1, -1, 12345, LEAST, GREATEST, LEAST + 1, 65535, 65536, -65536}) {
            PavementWalk walk = Checks.running("size 2 6;walker 0 3 east;", "lot;", seed);
            long x = seed & 0xffffffffL;
            int y = 3;
            for (int t = 1; t <= 60; t++) {
                x = (x * 1103515245L + 12345L) % 4294967296L;
                int to = x / 65536 % 2 == 0 ? y + 1 : y - 1;
                y = to >= 0 && to < 6 ? to : y;
                walk.go(1);
                edges.due("y by " + seed + " at " + t, walk.ran(0, 1), y);
            }
            edges.due("lots drawn", walk.state(6), 60);
        }
        edges.term("hand: that of his HAND (without one as lot)");
        PavementWalk walk = Checks.running("size 3 6;walker 0 3 east;walker 1 3 east;walker 2 3 west;hand 1 left;"
            + "hand 2 left;", "hand;", 5);
        PavementWalk lot = Checks.running("size 3 6;walker 0 3 east;", "lot;", 5);
        for (int t = 1; t <= 20; t++) {
            walk.go(1);
            lot.go(1);
            edges.due("without one at " + t, walk.ran(0, 1), lot.ran(0, 1));
            edges.due("lots of one alone", walk.state(6), t);
        }
        edges.due("EAST's left", walk.ran(1, 1), 0);
        edges.due("WEST's left", walk.ran(2, 1), 5);
    }

    private void lotsByNumbers() {
        edges.term("Lots are drawn by WALKERS' numbers.");
        int seed = 0;
        for (int k = 0; k < 8; k++) {
            seed += 1000003;
            PavementWalk walk = Checks.running("size 4 6;walker 0 3 east;walker 1 3 east;haste 1 9;pace 1 2;"
                + "walker 2 3 east;", "lot;", seed);
            int[] y = {3, 3, 3};
            long x = seed;
            for (int t = 0; t < 3; t++) {
                for (int w = 0; w < 3; w++) {
                    if (w != 1 || t % 2 == 0) {
                        x = (x * 1103515245L + 12345L) % 4294967296L;
                        int to = x / 65536 % 2 == 0 ? y[w] + 1 : y[w] - 1;
                        y[w] = to >= 0 && to < 6 ? to : y[w];
                    }
                }
                walk.go(1);
                edges.dueRow("y by " + seed + " at " + t, w -> walk.ran(w, 1), y);
            }
            edges.due("who does not act draws none", walk.state(6), 8);
        }
    }

    private void order() {
        edges.term("Then WALKERS, by HASTE, the greatest first, then by numbers, go to their aims one by one");
        String row = "size 9 1;walker 0 0 east;walker 1 0 east;walker 2 0 east;";
        // Who goes before the one ahead of him BUMPS.
        String[] hastes = {"", "haste 2 9;haste 1 8;", "haste 1 1;", "haste 0 9;haste 1 9;haste 2 9;",
            "haste 0 8;haste 1 8;haste 2 9;", "haste 2 1;", "haste 0 0;haste 1 0;haste 2 9;"};
        int[] moved = {1, 3, 1, 1, 2, 2, 2};
        for (int k = 0; k < hastes.length; k++) {
            PavementWalk walk = Checks.running(row + hastes[k], "go;", 1);
            edges.due(hastes[k], walk.go(1), moved[k]);
        }
        PavementWalk both = Checks.running("size 3 3;walker 1 0 east;walker 1 2 east;", "if left=0:right;left;", 1);
        both.go(1);
        edges.due("one SQUARE, the less number", both.on(1, 1), 0);
    }

    private void arriving() {
        edges.term("if that is ahead, out of the PASSAGE, he has ARRIVED and is there no more");
        PavementWalk walk = Checks.running("size 2 2;walker 1 0 east;walker 0 1 west;walker 0 0 east;"
            + "walker 1 1 west;haste 2 0;haste 0 1;", "go;", 1);
        edges.due("both ends", walk.go(1), 4);
        edges.due("ARRIVED", walk.state(1), 2);
        edges.due("his SQUARE is free by then", walk.on(1, 0), 2);
        edges.due("the other end", walk.on(0, 1), 3);
        walk.go(1);
        edges.due("all", walk.state(1), 4);
        edges.dueRow("in TENTHS", w -> walk.ran(w, 2), 0, 0, 1, 1);
    }

    private void bumping() {
        edges.term("if it is free by then, he stands there; else (a WALL, a WALKER, out at a side) he BUMPS and "
            + "stays.");
        bump("a WALL ahead", "size 3 3;walker 0 1 east;wall 1 1;", "go;");
        bump("a WALKER ahead", "size 3 3;walker 0 1 east;walker 1 1 west;", "go;");
        bump("a WALL at the right", "size 3 3;walker 0 1 east;wall 0 2;", "right;");
        bump("a WALL at the left", "size 3 3;walker 0 1 east;wall 0 0;", "left;");
        bump("out at EAST's right", "size 3 3;walker 0 2 east;", "right;");
        bump("out at EAST's left", "size 3 3;walker 0 0 east;", "left;");
        bump("out at WEST's right", "size 3 3;walker 0 0 west;", "right;");
        bump("out at WEST's left", "size 3 3;walker 0 2 west;", "left;");
        PavementWalk side = Checks.running("size 3 3;walker 0 1 east;walker 0 2 east;", "if right=0:wait;right;", 1);
        edges.due("who finds a WALKER there waits", side.go(1), 0);
        edges.due("waiting is no BUMP", side.ran(0, 5), 0);
    }

    private void bump(String name, String passage, String law) {
        PavementWalk walk = Checks.running(passage, law, 1);
        int x = walk.ran(0, 0);
        int y = walk.ran(0, 1);
        walk.go(1);
        edges.dueRow(name + " " + law, what -> walk.ran(0, what), x, y, NONE, 0, 0, 1, 1);
    }

    private void standing() {
        edges.term("STANDS: nobody moved in the last 10 TENTHS (and so many are over).");
        PavementWalk walk = Checks.running("size 9 1;walker 0 0 east;", "if waited>10:go;", 1);
        for (int t = 0; t < 40; t++) {
            // He moves in the TENTHS 11, 23 and 35: ten and eleven TENTHS stood still ahead of each.
            edges.due("at " + t, walk.state(2), t % 12 >= 10 ? 1 : 0);
            walk.go(1);
        }
        PavementWalk early = Checks.running("size 9 1;", "", 1);
        early.go(9);
        edges.due("nine are over", early.state(2), 0);
        early.go(1);
        edges.due("ten are over", early.state(2), 1);
    }

    private void dances() {
        edges.term("DANCE: two WALKERS, one EAST, one WEST, |dx| of them 2 at most and the same y as the TENTH "
            + "began, who both moved sideways in it to the same y.");
        for (int apart = 1; apart <= 5; apart++) {
            String east = "size 9 2;walker 2 0 east;walker " + (2 + apart) + " 0 ";
            String west = "size 9 2;walker 2 0 west;walker " + (2 + apart) + " 0 ";
            dance(east + "west;", apart <= 2 ? 1 : 0);
            dance(west + "east;", apart <= 2 ? 1 : 0);
            dance(east + "east;", 0);
            dance(west + "west;", 0);
        }
        dance("size 9 2;walker 2 0 east;walker 3 1 west;", 0);
        dance("size 9 2;walker 2 0 east;walker 3 0 west;wall 3 1;", 0);
        dance("size 9 2;walker 2 0 east;walker 3 0 west;pace 1 2;", 1);
        PavementWalk paced = Checks.running("size 9 2;walker 2 0 east;walker 3 0 west;pace 1 2;",
            "if right>0:right;left;", 1);
        paced.go(4);
        edges.due("one of them alone moves in the next", paced.state(3), 1);
        PavementWalk ahead = Checks.running("size 9 2;walker 2 0 east;walker 4 0 west;", "go;", 1);
        ahead.go(1);
        edges.due("straight on is no DANCE", ahead.state(3), 0);
        PavementWalk out = Checks.running("size 2 2;walker 1 0 east;walker 0 0 west;", "go;", 1);
        out.go(3);
        edges.due("out is no DANCE", out.state(3), 0);
    }

    private void dance(String passage, int due) {
        PavementWalk walk = Checks.running(passage, "if right>0:right;left;", 1);
        walk.go(1);
        edges.due(passage, walk.state(3), due);
    }

    private void lanes() {
        edges.term("LANES of the RUN: rows y that have WALKERS of one way alone, from 0 on: how often the way changes "
            + "from one to the next such, and 1 (0 without).");
        String[] rows = {"", "0e", "5w", "0e1e2e", "0e1w", "0e2w4e", "0e3e5w", "0e1w2e3w4e5w", "0e1e0w2e", "0e0w",
            "0w1e1w2w", "0w1e1w2e"};
        int[] due = {0, 1, 1, 1, 2, 3, 2, 6, 1, 0, 1, 2};
        int[] mixed = {0, 0, 0, 0, 0, 0, 0, 0, 1, 1, 1, 1};
        for (int k = 0; k < rows.length; k++) {
            edges.due("LANES of " + rows[k], Checks.running(rowed(rows[k]), "", 1).state(4), due[k]);
        }
        edges.term("MIXED: rows that have both.");
        for (int k = 0; k < rows.length; k++) {
            edges.due("MIXED rows of " + rows[k], Checks.running(rowed(rows[k]), "", 1).state(5), mixed[k]);
        }
        PavementWalk all = Checks.running(rowed("0e0w1e1w2e2w3e3w4e4w5e5w"), "", 1);
        edges.due("all are MIXED", all.state(5), 6);
    }

    /** A PASSAGE from signs: each row and the way of one who stands in it. */
    private static String rowed(String signs) {
        StringBuilder text = new StringBuilder("size 16 6;");
        for (int k = 0; k < signs.length(); k += 2) {
            text.append("walker ").append(k / 2).append(' ').append(signs.charAt(k));
            text.append(signs.charAt(k + 1) == 'e' ? " east;" : " west;");
        }
        return text.toString();
    }

    private void steps() {
        edges.term("DOOR x: of all steps of the RUN from x to x + 1, or back: TURNS: how often the way changes from "
            + "one to the next, and 1 (0 without); LONGEST: the most of one way behind one another (as they went, "
            + "within a TENTH too).");
        String rows = "size 2 6;walker 0 0 east;walker 0 1 east;walker 1 2 west;walker 0 3 east;walker 1 4 west;"
            + "walker 1 5 west;";
        PavementWalk numbers = Checks.running(rows, "go;", 1);
        numbers.go(1);
        edges.dueRow("E E W E W W", what -> numbers.door(0, what), 4, 2, 6);
        PavementWalk hastes = Checks.running(rows + "haste 3 5;haste 2 1;haste 4 1;haste 5 1;", "go;", 1);
        hastes.go(1);
        edges.dueRow("E W W W E E", what -> hastes.door(0, what), 3, 3, 6);
        PavementWalk none = Checks.running(rows, "wait;", 1);
        none.go(1);
        edges.dueRow("none", what -> none.door(0, what), 0, 0, 0);
        PavementWalk two = Checks.running("size 3 2;walker 0 0 east;walker 2 1 west;", "go;", 1);
        two.go(3);
        edges.dueRow("E W", what -> two.door(0, what), 2, 1, 2);
        edges.dueRow("W E", what -> two.door(1, what), 2, 1, 2);
    }
}
