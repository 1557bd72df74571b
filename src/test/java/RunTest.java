/** Promises 10 to 17: a RUN, tenth by tenth. */
final class RunTest {
    private static final Checks CHECKS = new Checks();

    public static void main(String[] args) {
        runsBegin();
        runsGoOnWhenToldAnew();
        runsBeginAnew();
        longLaws();
        straightOn();
        paceAndWait();
        sidesAndBumps();
        hasteGoesFirst();
        lotsAreDrawn();
        handsAreUsed();
        firstRuleThatHolds();
        aheadAndSides();
        soonIsCut();
        nearCrowdParted();
        lateSight();
        waitedIsCapped();
        standing();
        dances();
        lanesAndMixed();
        doors();
        askedWrongly();
        CHECKS.finish("RunTest");
    }

    private static void ran(PavementWalk walk, int w, int... due) {
        for (int what = 0; what < due.length; what++) {
            CHECKS.due("ran " + w + " " + what, walk.ran(w, what), due[what]);
        }
    }

    private static void finds(PavementWalk walk, int w, int... due) {
        for (int what = 0; what < due.length; what++) {
            CHECKS.due("finds " + w + " " + what, walk.finds(w, what), due[what]);
        }
    }

    private static void runsBegin() {
        PavementWalk walk = Checks.told("size 4 2;walker 1 0 east;", "go;");
        CHECKS.due("run(1, 0)", walk.run(1, 0, 7), false);
        CHECKS.due("run(0, 1)", walk.run(0, 1, 7), false);
        CHECKS.due("run(-1, 0)", walk.run(-1, 0, 7), false);
        CHECKS.due("run(0, -1)", walk.run(0, -1, 7), false);
        CHECKS.due("no run", walk.state(0), -1);
        CHECKS.due("run(0, 0)", walk.run(0, 0, 7), true);
        ran(walk, 0, 1, 0, -1, 0, 0, 0, 0, -2);
        CHECKS.due("go(2)", walk.go(2), 2);
        CHECKS.due("no such run", walk.run(0, 3, 7), false);
        CHECKS.due("the old one stays", walk.state(0), 2);
        CHECKS.due("another one", walk.run(0, 0, 8), true);
        ran(walk, 0, 1, 0, -1, 0, 0, 0, 0, -2);
        CHECKS.due("TENTH", walk.state(0), 0);
    }

    private static void runsGoOnWhenToldAnew() {
        PavementWalk walk = Checks.running("size 4 2;walker 0 0 east;", "go;", 1);
        walk.go(1);
        Checks.tell(walk, "size 2 1;");
        CHECKS.due("told anew", walk.passage(0), 0);
        Checks.tell(walk, "wait;");
        CHECKS.due("law told anew", walk.law(0), 0);
        CHECKS.due("he goes on", walk.go(1), 1);
        ran(walk, 0, 2, 0);
        CHECKS.due("the old length", walk.door(2, 2), 0);
    }

    /** Nothing of a RUN is left when another one begins. */
    private static void runsBeginAnew() {
        PavementWalk walk = Checks.running("size 6 2;walker 1 0 east;walker 3 0 west;late 0 3;",
            "if waited=3:go;if ahead=1:lot;go;", 3);
        walk.go(27);
        int[] first = answers(walk);
        walk.run(0, 0, 3);
        CHECKS.due("ahead, as at first", walk.finds(0, 0), 1);
        walk.go(27);
        int[] second = answers(walk);
        for (int k = 0; k < first.length; k++) {
            CHECKS.due("the second RUN, answer " + k, second[k], first[k]);
        }
        PavementWalk danced = Checks.running("size 6 2;walker 1 0 east;walker 3 0 west;",
            "if right>0:right;left;", 1);
        danced.go(3);
        CHECKS.due("DANCES", danced.state(3), 3);
        danced.run(0, 0, 1);
        CHECKS.due("no DANCES yet", danced.state(3), 0);
        PavementWalk stood = Checks.running("size 6 2;walker 1 0 east;", "if waited<20:wait;go;", 1);
        stood.go(22);
        CHECKS.due("a step", stood.door(1, 2), 1);
        stood.run(0, 0, 1);
        CHECKS.due("no step yet", stood.door(1, 2), 0);
        CHECKS.due("no turn yet", stood.door(1, 0), 0);
        stood.go(15);
        CHECKS.due("STANDS", stood.state(2), 1);
        stood.run(0, 0, 1);
        CHECKS.due("stands no more", stood.state(2), 0);
    }

    private static int[] answers(PavementWalk walk) {
        int[] answers = new int[36];
        for (int k = 0; k < 7; k++) {
            answers[k] = walk.state(k);
            answers[7 + k] = walk.ran(0, k);
            answers[14 + k] = walk.ran(1, k);
        }
        for (int k = 0; k < 15; k++) {
            answers[21 + k] = walk.door(k / 3, k % 3);
        }
        return answers;
    }

    private static void longLaws() {
        // Only the last of 16 RULES of four TESTS each holds, by its last TESTS.
        String rest = "if not waited>0 and near>3 and haste=0 and ";
        StringBuilder law = new StringBuilder();
        for (int k = 0; k < 6; k++) {
            law.append(rest).append("crowd>0:left;");
        }
        law.append("wait;");
        PavementWalk walk = Checks.told("size 9 3;walker 0 1 east;walker 5 1 west;", law.toString());
        walk.run(0, 0, 1);
        CHECKS.due("the 7th RULE", walk.does(0), 5);
        StringBuilder sixteen = new StringBuilder();
        for (int k = 0; k < 15; k++) {
            sixteen.append("if blocked:left;");
        }
        sixteen.append("if ahead>3 and ahead<5 and not parted and not near<5:right;");
        Checks.law(walk, sixteen.toString());
        CHECKS.due("RULES", walk.rules(1), 16);
        walk.run(0, 1, 1);
        CHECKS.due("the 16th RULE", walk.does(0), 1);
        walk.image(0);
        Checks.tell(walk, "wait;");
        walk.law(1);
        walk.run(0, 1, 1);
        CHECKS.due("another LAW", walk.does(0), 5);
        walk.again(0);
        CHECKS.due("the 16th RULE again", walk.does(0), 1);
        walk.run(0, 1, 1);
        CHECKS.due("the 16th RULE in a new RUN", walk.does(0), 1);
    }

    private static void straightOn() {
        PavementWalk walk = Checks.running("size 3 2;walker 0 0 east;walker 1 1 west;", "go;", 1);
        CHECKS.due("on(0, 0)", walk.on(0, 0), 0);
        CHECKS.due("on(1, 1)", walk.on(1, 1), 1);
        CHECKS.due("on(0, 1)", walk.on(0, 1), -1);
        CHECKS.due("does 0", walk.does(0), 0);
        CHECKS.due("go(0)", walk.go(0), 0);
        CHECKS.due("go(2)", walk.go(2), 4);
        ran(walk, 0, 2, 0, -1, 2, 0, 0, 0);
        ran(walk, 1, -1, -1, 1, 2, 0, 0, 0);
        CHECKS.due("on(0, 1)", walk.on(0, 1), -1);
        CHECKS.due("does 1", walk.does(1), -1);
        CHECKS.due("finds 1", walk.finds(1, 0), -2);
        CHECKS.due("ARRIVED", walk.state(1), 1);
        CHECKS.due("go(3)", walk.go(3), 1);
        ran(walk, 0, -1, -1, 2, 3, 0, 0, 2);
        ran(walk, 1, -1, -1, 1, 2, 0, 0, 3);
        CHECKS.due("ARRIVED", walk.state(1), 2);
        CHECKS.due("TENTH", walk.state(0), 5);
        CHECKS.due("go(200)", walk.go(200), 0);
        CHECKS.due("TENTH", walk.state(0), 205);
        CHECKS.due("go(201)", walk.go(201), -1);
        CHECKS.due("go(-1)", walk.go(-1), -1);
        CHECKS.due("on(-1, -1)", walk.on(-1, -1), -1);
    }

    private static void paceAndWait() {
        PavementWalk walk = Checks.running("size 9 1;walker 0 0 east;pace 0 3;", "go;", 1);
        int[] at = {0, 1, 1, 1, 2, 2, 2, 3};
        int[] does = {0, 5, 5, 0, 5, 5, 0, 5};
        int[] waited = {0, 0, 1, 2, 0, 1, 2, 0};
        for (int t = 0; t < at.length; t++) {
            CHECKS.due("x at " + t, walk.ran(0, 0), at[t]);
            CHECKS.due("does at " + t, walk.does(0), does[t]);
            CHECKS.due("waited at " + t, walk.finds(0, 5), waited[t]);
            CHECKS.due("ran waited at " + t, walk.ran(0, 6), waited[t]);
            walk.go(1);
        }
        PavementWalk lazy = Checks.running("size 9 1;walker 0 0 east;", "if waited=3:go;", 1);
        CHECKS.due("no rule holds", lazy.does(0), 5);
        CHECKS.due("go(3)", lazy.go(3), 0);
        CHECKS.due("does", lazy.does(0), 0);
        CHECKS.due("go(9)", lazy.go(9), 3);
        ran(lazy, 0, 3, 0, -1, 3, 0, 0, 0);
        PavementWalk none = Checks.running("size 9 1;walker 0 0 east;", "", 1);
        CHECKS.due("without rules", none.does(0), 5);
        CHECKS.due("go(5)", none.go(5), 0);
        ran(none, 0, 0, 0, -1, 0, 0, 0, 5);
    }

    private static void sidesAndBumps() {
        String passage = "size 5 3;wall 3 2;walker 1 1 east;walker 3 1 west;";
        PavementWalk right = Checks.running(passage, "right;", 1);
        CHECKS.due("right", right.does(0), 1);
        CHECKS.due("go", right.go(1), 2);
        ran(right, 0, 1, 2, -1, 1, 1, 0, 0);
        ran(right, 1, 3, 0, -1, 1, 1, 0, 0);
        CHECKS.due("go", right.go(2), 0);
        ran(right, 0, 1, 2, -1, 1, 1, 2, 2);
        PavementWalk left = Checks.running(passage, "left;", 1);
        CHECKS.due("left", left.does(1), 2);
        CHECKS.due("go", left.go(1), 1);
        ran(left, 0, 1, 0, -1, 1, 1, 0, 0);
        ran(left, 1, 3, 1, -1, 0, 0, 1, 1);
        CHECKS.due("on a wall", left.on(3, 2), 100);
        PavementWalk wall = Checks.running("size 3 1;wall 1 0;walker 0 0 east;", "go;", 1);
        CHECKS.due("at a wall", wall.go(4), 0);
        ran(wall, 0, 0, 0, -1, 0, 0, 4, 4);
        PavementWalk face = Checks.running("size 3 1;walker 0 0 east;walker 1 0 west;", "go;", 1);
        CHECKS.due("face to face", face.go(2), 0);
        ran(face, 0, 0, 0, -1, 0, 0, 2, 2);
        ran(face, 1, 1, 0, -1, 0, 0, 2, 2);
    }

    private static void hasteGoesFirst() {
        // Who goes first frees his SQUARE for the one behind him; else that one bumps.
        String row = "size 4 1;walker 0 0 east;walker 1 0 east;";
        PavementWalk plain = Checks.running(row, "go;", 1);
        CHECKS.due("0 first", plain.go(1), 1);
        ran(plain, 0, 0, 0, -1, 0, 0, 1);
        PavementWalk haste = Checks.running(row + "haste 1 1;", "go;", 1);
        CHECKS.due("1 first", haste.go(1), 2);
        ran(haste, 0, 1, 0, -1, 1, 0, 0);
        PavementWalk square = Checks.running(
            "size 3 3;walker 1 0 east;walker 1 2 east;haste 0 8;haste 1 9;",
            "if right=2:right;left;", 1);
        CHECKS.due("one SQUARE for two", square.go(1), 1);
        CHECKS.due("the hasty one has it", square.on(1, 1), 1);
    }

    private static void lotsAreDrawn() {
        int seed = 4711;
        PavementWalk walk = Checks.running("size 5 6;walker 1 2 east;walker 3 3 west;haste 1 5;"
            + "walker 4 0 east;pace 2 2;", "if haste<5:lot;hand;", seed);
        CHECKS.due("does 0", walk.does(0), 4);
        CHECKS.due("does 1", walk.does(1), 3);
        CHECKS.due("asking draws none", walk.state(6), 0);
        int x = seed;
        int[] y = {2, 3, 0};
        int[] way = {1, -1, 1};
        int drawn = 0;
        for (int t = 0; t < 6; t++) {
            for (int w = 0; w < 3; w++) {
                if (w == 2 && t % 2 == 1) {
                    continue;
                }
                x = x * 1103515245 + 12345;
                int to = y[w] + (((x >>> 16) & 1) == 0 ? way[w] : -way[w]);
                y[w] = to >= 0 && to < 6 ? to : y[w];
                drawn++;
            }
            walk.go(1);
            for (int w = 0; w < 3; w++) {
                CHECKS.due("y of " + w + " at " + t, walk.ran(w, 1), y[w]);
            }
            CHECKS.due("lots at " + t, walk.state(6), drawn);
        }
    }

    private static void handsAreUsed() {
        PavementWalk walk = Checks.running("size 5 3;walker 1 1 east;walker 3 1 west;"
            + "hand 0 left;hand 1 left;", "hand;", 1);
        CHECKS.due("does", walk.does(0), 3);
        walk.go(1);
        ran(walk, 0, 1, 0, -1, 1, 1);
        ran(walk, 1, 3, 2, -1, 1, 1);
        CHECKS.due("no lots", walk.state(6), 0);
        PavementWalk right = Checks.running("size 5 3;walker 1 1 east;walker 3 1 west;"
            + "hand 0 right;hand 1 right;", "hand;", 1);
        right.go(1);
        ran(right, 0, 1, 2);
        ran(right, 1, 3, 0);
    }

    private static void firstRuleThatHolds() {
        String law = "if blocked and facing:right;if not ahead>2 and waited<1:left;"
            + "if ahead=9:go;if near>4 and not blocked:lot;";
        PavementWalk walk = Checks.running("size 12 3;walker 0 1 east;walker 1 1 west;"
            + "walker 3 0 west;wall 1 0;walker 9 2 east;walker 4 2 east;", law, 1);
        int[] due = {1, 1, 2, 0, 5};
        for (int w = 0; w < due.length; w++) {
            CHECKS.due("does " + w, walk.does(w), due[w]);
        }
    }

    private static void aheadAndSides() {
        PavementWalk walk = Checks.running("size 16 6;walker 0 2 east;wall 0 0;walker 0 5 west;"
            + "walker 15 2 west;walker 12 4 east;wall 15 4;walker 14 0 west;", "go;", 1);
        // ahead, soon, near, right, left, waited, haste, crowd, blocked, facing, parted
        finds(walk, 0, 9, 9 / 2, 3, 2, 1, 0, 0, 0, 0, 1, 0, -2);
        finds(walk, 1, 9, 99, 3, 2, 0, 0, 0, 0, 0, 0, 0, -2);
        finds(walk, 2, 9, 9 / 2, 3, 2, 1, 0, 0, 0, 0, 1, 0, -2);
        finds(walk, 3, 2, 99, 5, 1, 4, 0, 0, 0, 0, 0, 0, -2);
        finds(walk, 4, 9, 99, 3, 0, 5, 0, 0, 0, 0, 0, 0, -2);
        PavementWalk near = Checks.running("size 5 2;walker 0 0 east;walker 1 0 east;walker 4 0 west;"
            + "walker 4 1 east;wall 3 1;walker 2 1 east;", "go;", 1);
        finds(near, 0, 0, 99, 1, 1, 0, 0, 0, 1, 1, 0, 0);
        finds(near, 1, 2, 1, 1, 1, 0, 0, 0, 2, 0, 1, 0);
        finds(near, 2, 2, 1, 1, 0, 0, 0, 0, 1, 0, 1, 0);
        finds(near, 3, 9, 99, 1, 0, 0, 0, 0, 2, 0, 0, 0);
        CHECKS.due("a wall ahead", near.finds(4, 0), 0);
        CHECKS.due("blocked by it", near.finds(4, 8), 1);
        CHECKS.due("soon with it", near.finds(4, 1), 99);
    }

    private static void soonIsCut() {
        String east = "size 16 1;walker 0 0 east;walker 8 0 ";
        int[][] paces = {{1, 1}, {1, 4}, {4, 1}, {3, 4}, {4, 4}};
        int[] facing = {7 / 2, 7 * 4 / 5, 7 * 4 / 5, 7 * 12 / 7, 7 * 16 / 8};
        int[] behind = {99, 7 * 4 / 3, 99, 7 * 12, 99};
        for (int k = 0; k < paces.length; k++) {
            String pace = "pace 0 " + paces[k][0] + ";pace 1 " + paces[k][1] + ";";
            PavementWalk meets = Checks.running(east + "west;" + pace, "go;", 1);
            CHECKS.due("soon, facing, " + k, meets.finds(0, 1), facing[k]);
            PavementWalk follows = Checks.running(east + "east;" + pace, "go;", 1);
            CHECKS.due("soon, behind, " + k, follows.finds(0, 1), behind[k]);
            CHECKS.due("soon, ahead of all, " + k, follows.finds(1, 1), 99);
        }
        PavementWalk far = Checks.running("size 16 1;walker 0 0 east;pace 0 3;walker 10 0 east;"
            + "pace 1 4;", "go;", 1);
        CHECKS.due("soon, 99 at most", far.finds(0, 1), 99);
        PavementWalk next = Checks.running("size 16 1;walker 0 0 east;walker 1 0 east;pace 1 2;",
            "go;", 1);
        CHECKS.due("soon, there", next.finds(0, 1), 0);
        PavementWalk wall = Checks.running("size 16 1;walker 0 0 east;walker 5 0 west;wall 3 0;",
            "go;", 1);
        finds(wall, 0, 2, 99, 5, 0, 0, 0, 0, 0, 0, 0);
    }

    private static void nearCrowdParted() {
        PavementWalk walk = Checks.running("size 9 3;walker 4 1 east;walker 6 1 east;walker 5 0 west;"
            + "walker 4 2 west;walker 7 1 west;friends 0 4;friends 1 2;", "wait;", 1);
        int[] near = {1, 1, 2, 1, 1};
        int[] crowd = {3, 3, 2, 1, 1};
        int[] parted = {1, 0, 0, 0, 1};
        for (int w = 0; w < near.length; w++) {
            CHECKS.due("near " + w, walk.finds(w, 2), near[w]);
            CHECKS.due("crowd " + w, walk.finds(w, 7), crowd[w]);
            CHECKS.due("parted " + w, walk.finds(w, 10), parted[w]);
        }
        PavementWalk alone = Checks.running("size 9 3;walker 8 1 east;walker 0 1 east;friends 0 1;",
            "go;", 1);
        CHECKS.due("parted", alone.finds(1, 10), 1);
        alone.go(1);
        CHECKS.due("near, when he is alone", alone.finds(1, 2), 99);
        CHECKS.due("who ARRIVED is not seen", alone.finds(1, 10), 0);
    }

    private static void lateSight() {
        PavementWalk walk = Checks.running("size 12 2;walker 0 0 east;walker 9 0 west;late 0 2;"
            + "walker 0 1 west;", "go;", 1);
        for (int t = 0; t < 4; t++) {
            // He stands at t himself, and sees the other one at 9 less (t - 2, or 0).
            CHECKS.due("ahead at " + t, walk.finds(0, 0), 9 - Math.max(0, t - 2) - t - 1);
            CHECKS.due("in time at " + t, walk.finds(1, 0), 9 - t - t - 1);
            walk.go(1);
        }
        PavementWalk gone = Checks.running("size 4 2;walker 1 0 east;walker 0 1 west;late 0 3;",
            "if haste=0 and near<99:wait;go;", 1);
        // 1 waits, too, as long as it sees 0; so both stand.
        CHECKS.due("both wait", gone.go(5), 0);
        PavementWalk ghost = Checks.running("size 8 2;walker 0 0 east;walker 0 1 west;late 0 3;"
            + "haste 1 1;", "if haste=1:go;wait;", 1);
        int[] near = {1, 1, 1, 1, 99};
        for (int t = 0; t < near.length; t++) {
            CHECKS.due("near at " + t, ghost.finds(0, 2), near[t]);
            CHECKS.due("right at " + t, ghost.finds(0, 3), near[t] == 1 ? 0 : 1);
            ghost.go(1);
        }
        PavementWalk own = Checks.running("size 8 1;walker 0 0 east;late 0 2;", "go;", 1);
        own.go(3);
        CHECKS.due("himself he sees as he is", own.finds(0, 0), 9);
        CHECKS.due("and is not near himself", own.finds(0, 2), 99);
        PavementWalk steps = Checks.running("size 8 1;walker 1 0 east;walker 0 0 east;late 1 1;", "go;", 1);
        steps.go(2);
        CHECKS.due("he stands where he sees another", steps.finds(1, 2), 0);
        CHECKS.due("a crowd", steps.finds(1, 7), 1);
    }

    private static void waitedIsCapped() {
        PavementWalk walk = Checks.running("size 9 1;walker 0 0 east;", "if waited=99:go;", 1);
        CHECKS.due("go(98)", walk.go(98), 0);
        CHECKS.due("waited", walk.ran(0, 6), 98);
        walk.go(1);
        CHECKS.due("waited", walk.finds(0, 5), 99);
        CHECKS.due("go(1)", walk.go(1), 1);
        CHECKS.due("waited", walk.ran(0, 6), 0);
        PavementWalk still = Checks.running("size 9 1;walker 0 0 east;", "wait;", 1);
        still.go(200);
        CHECKS.due("waited, 99 at most", still.ran(0, 6), 99);
        CHECKS.due("found, too", still.finds(0, 5), 99);
    }

    private static void standing() {
        PavementWalk walk = Checks.running("size 4 1;walker 0 0 east;", "if waited<1:go;", 1);
        // He goes out in the TENTHS 0 to 3; in the 14th that is over he moved ten ago.
        for (int t = 0; t < 16; t++) {
            CHECKS.due("STANDS at " + t, walk.state(2), t >= 14 ? 1 : 0);
            walk.go(1);
        }
        PavementWalk none = Checks.running("size 4 1;", "", 1);
        CHECKS.due("go(9)", none.go(9), 0);
        CHECKS.due("nine are over", none.state(2), 0);
        none.go(1);
        CHECKS.due("ten are over", none.state(2), 1);
        PavementWalk again = Checks.running("size 4 1;walker 0 0 east;", "if waited=12:go;", 1);
        again.go(12);
        CHECKS.due("stands", again.state(2), 1);
        again.go(1);
        CHECKS.due("moves", again.state(2), 0);
    }

    private static void dances() {
        String two = "size 6 2;walker 1 0 east;walker 3 0 west;";
        PavementWalk walk = Checks.running(two, "if right>0:right;left;", 1);
        CHECKS.due("to the same side, again and again", walk.go(5), 10);
        CHECKS.due("DANCES", walk.state(3), 5);
        PavementWalk far = Checks.running("size 6 2;walker 1 0 east;walker 4 0 west;",
            "if right>0:right;left;", 1);
        far.go(5);
        CHECKS.due("3 apart is no DANCE", far.state(3), 0);
        PavementWalk same = Checks.running("size 6 2;walker 1 0 east;walker 3 0 east;",
            "if right>0:right;left;", 1);
        same.go(5);
        CHECKS.due("of one way is no DANCE", same.state(3), 0);
        PavementWalk apart = Checks.running("size 6 3;walker 1 1 east;walker 3 1 west;", "right;", 1);
        apart.go(1);
        CHECKS.due("to two sides is no DANCE", apart.state(3), 0);
        PavementWalk bump = Checks.running(two + "wall 1 1;", "if right>0:right;left;", 1);
        bump.go(1);
        CHECKS.due("a BUMP is no DANCE", bump.state(3), 0);
        PavementWalk three = Checks.running("size 6 2;walker 1 0 east;walker 2 0 west;walker 3 0 west;",
            "if right>0:right;left;", 1);
        three.go(1);
        CHECKS.due("two couples", three.state(3), 2);
        PavementWalk rows = Checks.running("size 6 3;walker 1 0 east;walker 3 2 west;", "right;", 1);
        rows.go(1);
        CHECKS.due("from two rows is no DANCE", rows.state(3), 0);
        PavementWalk back = Checks.running("size 6 2;walker 3 0 east;walker 1 0 west;",
            "if right>0:right;left;", 1);
        back.go(1);
        CHECKS.due("back to back is one", back.state(3), 1);
    }

    private static void lanesAndMixed() {
        String text = "size 6 6;walker 0 0 east;walker 1 0 east;walker 3 1 west;walker 4 1 east;"
            + "walker 3 2 east;walker 3 4 west;walker 2 5 west;";
        PavementWalk walk = Checks.running(text, "if haste=0:go;", 1);
        CHECKS.due("LANES", walk.state(4), 2);
        CHECKS.due("MIXED", walk.state(5), 1);
        walk.go(2);
        // Row 1's EAST one is out: E, W, E, nobody, W, W.
        CHECKS.due("LANES", walk.state(4), 4);
        CHECKS.due("MIXED", walk.state(5), 0);
        walk.go(20);
        CHECKS.due("LANES", walk.state(4), 0);
        CHECKS.due("MIXED", walk.state(5), 0);
        PavementWalk mixed = Checks.running("size 6 6;walker 0 0 east;walker 5 0 west;", "wait;", 1);
        CHECKS.due("without a LANE", mixed.state(4), 0);
        CHECKS.due("MIXED", mixed.state(5), 1);
    }

    private static void doors() {
        PavementWalk walk = Checks.running("size 4 3;walker 1 0 east;walker 2 1 west;walker 0 2 east;",
            "go;", 1);
        walk.go(9);
        // TENTH 0: 0 by door 1 E, 1 by door 1 W, 2 by door 0 E. 1: 0 by door 2 E, 1 by door 0 W,
        // 2 by door 1 E. 2: 2 by door 2 E.
        int[][] due = {{2, 1, 2}, {3, 1, 3}, {1, 2, 2}};
        for (int x = 0; x < due.length; x++) {
            for (int what = 0; what < 3; what++) {
                CHECKS.due("door " + x + " " + what, walk.door(x, what), due[x][what]);
            }
        }
        CHECKS.due("door(3, 0)", walk.door(3, 0), -1);
        CHECKS.due("door(-1, 0)", walk.door(-1, 0), -1);
        CHECKS.due("door(0, 3)", walk.door(0, 3), -1);
        CHECKS.due("door(0, -1)", walk.door(0, -1), -1);
        PavementWalk haste = Checks.running("size 4 3;walker 1 0 east;walker 2 1 west;walker 1 2 east;"
            + "haste 2 1;", "go;", 1);
        haste.go(1);
        CHECKS.due("as they went", haste.door(1, 0), 2);
        CHECKS.due("two behind one another", haste.door(1, 1), 2);
        PavementWalk none = Checks.running("size 4 3;walker 1 0 east;", "right;", 1);
        none.go(3);
        for (int what = 0; what < 3; what++) {
            CHECKS.due("no step", none.door(1, what), 0);
        }
    }

    private static void askedWrongly() {
        PavementWalk walk = Checks.running("size 4 3;walker 1 0 east;", "go;", 1);
        ran(walk, 1, -2, -2);
        ran(walk, -1, -2, -2);
        finds(walk, 1, -2, -2);
        CHECKS.due("ran(0, -1)", walk.ran(0, -1), -2);
        CHECKS.due("ran(0, 7)", walk.ran(0, 7), -2);
        CHECKS.due("finds(0, -1)", walk.finds(0, -1), -2);
        CHECKS.due("finds(0, 11)", walk.finds(0, 11), -2);
        CHECKS.due("does(1)", walk.does(1), -1);
        CHECKS.due("does(-1)", walk.does(-1), -1);
        CHECKS.due("on(4, 0)", walk.on(4, 0), -1);
        CHECKS.due("on(0, 3)", walk.on(0, 3), -1);
        CHECKS.due("state(7)", walk.state(7), -1);
        CHECKS.due("state(-1)", walk.state(-1), -1);
    }
}
