/** Promises 18 to 27: what trials of a PASSAGE by a LAW tell. */
final class TrialTest {
    private static final Checks CHECKS = new Checks();
    private static final int NONE = PavementWalk.NONE;

    public static void main(String[] args) {
        twoWithoutLots();
        twoByLots();
        twoAtLength();
        twoWrongly();
        trialsTakeTheirOwn();
        fullest();
        pillar();
        cost();
        better();
        flow();
        touch();
        slack();
        opened();
        fits();
        trialsLeaveTheRun();
        CHECKS.finish("TrialTest");
    }

    private static void twoWithoutLots() {
        PavementWalk walk = Checks.told("size 3 2;walker 0 0 east;walker 2 1 west;", "go;");
        int parts = 1;
        for (int n = 0; n <= 8; n++) {
            CHECKS.due("both by " + n, walk.two(0, 0, n, 0), n < 3 ? 0 : parts);
            CHECKS.due("no DANCE by " + n, walk.two(0, 0, n, 10), parts);
            CHECKS.due("a DANCE by " + n, walk.two(0, 0, n, 11), 0);
            parts *= 4;
        }
    }

    private static void twoByLots() {
        // Two face to face in a passage of two rows: by lots they go to the same side or not.
        PavementWalk walk = Checks.told("size 3 2;walker 0 0 east;walker 1 0 west;",
            "if blocked:lot;go;");
        // EAST's right is free, his left is out; WEST's left is free, his right is out.
        // Of 4 in one TENTH: both go to row 1 (a DANCE), one of them alone (twice), or none.
        CHECKS.due("no DANCE by 1", walk.two(0, 0, 1, 10), 3);
        CHECKS.due("a DANCE by 1", walk.two(0, 0, 1, 11), 1);
        CHECKS.due("both by 1", walk.two(0, 0, 1, 0), 0);
        // In the second TENTH those apart (2 of 4) go on; of those still face to face a quarter DANCES.
        CHECKS.due("no DANCE by 2", walk.two(0, 0, 2, 10), 8 + 3);
        CHECKS.due("a DANCE by 2", walk.two(0, 0, 2, 11), 1 + 3);
        CHECKS.due("two DANCES by 2", walk.two(0, 0, 2, 12), 1);
        CHECKS.due("three DANCES by 2", walk.two(0, 0, 2, 13), 0);
        // Apart after the first TENTH (8 of 16) WEST is out in the third, EAST in the fourth.
        CHECKS.due("both by 3", walk.two(0, 0, 3, 0), 0);
        CHECKS.due("both by 4", walk.two(0, 0, 4, 0), 128);
        CHECKS.due("both by 5", walk.two(0, 0, 5, 0), 768);
    }

    private static void twoAtLength() {
        PavementWalk walk = Checks.told("size 9 2;walker 4 0 east;walker 5 0 west;", "lot;");
        // Each lot bumps or moves; as long as both are in a row, a quarter DANCES.
        long all = 0;
        for (int k = 0; k <= 8; k++) {
            all += walk.two(0, 0, 8, 10 + k);
        }
        CHECKS.due("all PARTS", all, 65536);
        CHECKS.due("eight DANCES", walk.two(0, 0, 8, 18), 1);
        CHECKS.due("none ARRIVED", walk.two(0, 0, 8, 0), 0);
        PavementWalk hand = Checks.told("size 9 2;walker 4 0 east;walker 5 0 west;hand 0 right;", "hand;");
        CHECKS.due("one has a HAND", hand.two(0, 0, 1, 11), 2);
        CHECKS.due("of four", hand.two(0, 0, 1, 10), 2);
    }

    private static void twoWrongly() {
        PavementWalk walk = Checks.told("size 3 2;walker 0 0 east;walker 2 1 west;", "go;");
        Checks.passage(walk, "size 3 2;walker 0 0 east;");
        Checks.passage(walk, "size 3 2;walker 0 0 east;walker 1 0 east;walker 2 0 east;");
        CHECKS.due("one WALKER", walk.two(1, 0, 2, 0), -1);
        CHECKS.due("three WALKERS", walk.two(2, 0, 2, 10), -1);
        CHECKS.due("no PASSAGE", walk.two(3, 0, 2, 0), -1);
        CHECKS.due("no LAW", walk.two(0, 1, 2, 0), -1);
        CHECKS.due("n 9", walk.two(0, 0, 9, 0), -1);
        CHECKS.due("n -1", walk.two(0, 0, -1, 0), -1);
        CHECKS.due("what 1", walk.two(0, 0, 2, 1), -1);
        CHECKS.due("what 9", walk.two(0, 0, 2, 9), -1);
        CHECKS.due("what 19", walk.two(0, 0, 2, 19), -1);
        CHECKS.due("what -1", walk.two(0, 0, 2, -1), -1);
        CHECKS.due("what 18", walk.two(0, 0, 2, 18), 0);
    }

    /** Each trial takes the PASSAGE and the LAW that are asked for, whatever was told last. */
    private static void trialsTakeTheirOwn() {
        PavementWalk walk = Checks.told("size 3 2;walker 0 0 east;walker 2 1 west;", "go;");
        Checks.law(walk, "wait;");
        Checks.passage(walk, "size 9 2;walker 0 0 east;wall 8 0;walker 8 1 west;");
        CHECKS.due("two of 0", walk.two(0, 0, 3, 0), 64);
        CHECKS.due("two of 0 by 1", walk.two(0, 1, 3, 0), 0);
        CHECKS.due("two of 1", walk.two(1, 0, 3, 0), 0);
        CHECKS.due("two of 2", walk.two(2, 0, 3, 10), NONE);
        CHECKS.due("two by 2", walk.two(0, 2, 3, 10), NONE);
        CHECKS.due("fullest of 0", walk.fullest(0, 0, 1, 3), NONE);
        CHECKS.due("fullest of 1", walk.fullest(1, 0, 1, 3), 1);
        CHECKS.due("opened of 1", walk.opened(1, 0, 1, 30), 800);
        CHECKS.due("opened of 0", walk.opened(0, 0, 1, 30), NONE);
        CHECKS.due("flow of 0", walk.flow(0, 0, 1, 30), 2);
        CHECKS.due("flow of 0 by 1", walk.flow(0, 1, 1, 30), 0);
        CHECKS.due("slack of 0", walk.slack(0, 0, 1, 30, 0), 3);
        CHECKS.due("slack of 1", walk.slack(1, 0, 1, 30, 0), NONE);
        CHECKS.due("better of 0", walk.better(0, 1, 30), 0);
    }

    private static void fullest() {
        PavementWalk walk = Checks.told("size 6 1;walker 5 0 east;walker 3 0 east;walker 0 0 east;"
            + "walker 1 0 west;", "go;");
        CHECKS.due("2 and 3 face to face", walk.fullest(0, 0, 1, 200), 4);
        CHECKS.due("6 TENTHS are enough for 2", walk.fullest(0, 0, 1, 6), 4);
        CHECKS.due("5 are not", walk.fullest(0, 0, 1, 5), 3);
        CHECKS.due("2 are not for 1", walk.fullest(0, 0, 1, 2), 2);
        CHECKS.due("n 0", walk.fullest(0, 0, 1, 0), NONE);
        CHECKS.due("n 201", walk.fullest(0, 0, 1, 201), NONE);
        CHECKS.due("no PASSAGE", walk.fullest(1, 0, 1, 5), NONE);
        CHECKS.due("no LAW", walk.fullest(0, 1, 1, 5), NONE);
        Checks.passage(walk, "size 6 1;");
        CHECKS.due("no WALKERS", walk.fullest(1, 0, 1, 5), NONE);
        Checks.passage(walk, "size 6 1;walker 5 0 east;");
        CHECKS.due("all ARRIVE", walk.fullest(2, 0, 1, 5), NONE);
        // 0 waits for his friend, who is not there yet when 0 is alone.
        PavementWalk friends = Checks.told("size 9 1;walker 5 0 east;walker 1 0 east;friends 0 1;"
            + "pace 1 4;", "if parted:wait;go;");
        CHECKS.due("alone he goes", friends.fullest(0, 0, 1, 4), 2);
    }

    private static void pillar() {
        // By the wall's side they keep apart: who is blocked by a WALL goes left, by another waits.
        PavementWalk walk = Checks.told("size 5 2;walker 0 0 east;walker 4 0 west;",
            "if ahead<1 and not facing:right;if ahead<1:wait;go;");
        CHECKS.due("face to face", walk.fullest(0, 0, 1, 30), 2);
        // EAST at 0, 0 with a WALL at 1, 0 goes right to 0, 1 and on; WEST's right is out there, so
        // that he stays; with a WALL at 2, 0 the same at 1, 0; at 3, 0 EAST goes right at 2, 0.
        CHECKS.due("PILLAR", walk.pillar(0, 0, 1, 30), 100);
        CHECKS.due("too few TENTHS", walk.pillar(0, 0, 1, 2), NONE);
        CHECKS.due("n 0", walk.pillar(0, 0, 1, 0), NONE);
        CHECKS.due("n 101", walk.pillar(0, 0, 1, 101), NONE);
        CHECKS.due("n 100", walk.pillar(0, 0, 1, 100), 100);
        CHECKS.due("no PASSAGE", walk.pillar(-1, 0, 1, 9), NONE);
        CHECKS.due("no LAW", walk.pillar(0, -1, 1, 9), NONE);
        CHECKS.due("told as before", walk.about(0, 3), 0);
        PavementWalk free = Checks.told("size 5 2;walker 0 0 east;", "go;");
        CHECKS.due("nothing is better", free.pillar(0, 0, 1, 30), NONE);
    }

    private static void cost() {
        String row = "size 4 1;walker 0 0 east;walker 1 0 east;pace 1 2;";
        PavementWalk walk = Checks.told(row, "go;");
        // 1 goes in the TENTHS 0, 2, 4, out in 4; 0 alone is out in 3. Behind him 0 goes in 1
        // (to 1), 3 (to 2), 5 (to 3; in 4 it BUMPS? no: 1 is at 3 till 4), out in 6.
        PavementWalk run = Checks.running(row, "go;", 1);
        run.go(20);
        int with = run.ran(0, 2) + 1;
        CHECKS.due("cost of 1", walk.cost(0, 0, 1, 20, 1), with - 4);
        CHECKS.due("cost of 0", walk.cost(0, 0, 1, 20, 0), 0);
        CHECKS.due("who doesn't ARRIVE has n", walk.cost(0, 0, 1, 5, 1), 5 - 4);
        CHECKS.due("n 1", walk.cost(0, 0, 1, 1, 1), 0);
        PavementWalk face = Checks.told("size 4 1;walker 0 0 east;walker 1 0 west;walker 2 0 west;", "go;");
        // Without 0 both others are out after 2 and 3 TENTHS (the second one bumps none).
        CHECKS.due("face to face", face.cost(0, 0, 1, 50, 0), 100 - 2 - 3);
        CHECKS.due("of one behind", face.cost(0, 0, 1, 50, 2), 0);
        CHECKS.due("of one between", face.cost(0, 0, 1, 50, 1), 0);
        CHECKS.due("alone", Checks.told("size 4 1;walker 0 0 east;", "go;").cost(0, 0, 1, 9, 0), 0);
        CHECKS.due("n 0", walk.cost(0, 0, 1, 0, 0), -100000);
        CHECKS.due("n 201", walk.cost(0, 0, 1, 201, 0), -100000);
        CHECKS.due("n 200", walk.cost(0, 0, 1, 200, 0), 0);
        CHECKS.due("no WALKER", walk.cost(0, 0, 1, 9, 2), -100000);
        CHECKS.due("no WALKER", walk.cost(0, 0, 1, 9, -1), -100000);
        CHECKS.due("no PASSAGE", walk.cost(1, 0, 1, 9, 0), -100000);
        CHECKS.due("no LAW", walk.cost(0, 1, 1, 9, 0), -100000);
        // 0 waits for 2, his friend still when 1 is away.
        PavementWalk renamed = Checks.told("size 9 2;walker 0 0 east;walker 4 1 west;walker 8 0 east;"
            + "walker 4 0 west;haste 3 1;friends 0 2;pace 2 4;wall 3 1;", "if parted:wait;if blocked:left;go;");
        PavementWalk without = Checks.running("size 9 2;walker 0 0 east;walker 8 0 east;walker 4 0 west;"
            + "haste 2 1;friends 0 1;pace 1 4;wall 3 1;", "if parted:wait;if blocked:left;go;", 1);
        PavementWalk whole = Checks.running("size 9 2;walker 0 0 east;walker 4 1 west;walker 8 0 east;"
            + "walker 4 0 west;haste 3 1;friends 0 2;pace 2 4;wall 3 1;",
            "if parted:wait;if blocked:left;go;", 1);
        without.go(30);
        whole.go(30);
        int sum = 0;
        for (int w = 0; w < 3; w++) {
            int t = without.ran(w, 2);
            int u = whole.ran(w == 0 ? 0 : w + 1, 2);
            sum += (u < 0 ? 30 : u + 1) - (t < 0 ? 30 : t + 1);
        }
        CHECKS.due("those behind him move up", renamed.cost(0, 0, 1, 30, 1), sum);
        CHECKS.due("friends wait", without.ran(0, 2) == NONE, true);
        PavementWalk apart = Checks.told("size 9 2;walker 0 0 east;walker 8 0 east;friends 0 1;"
            + "walker 4 1 west;", "if parted:wait;go;");
        // 1 waits for 0, and 0 for 1, for ever; without 1 the other one goes: 9 TENTHS, 2 needs 5.
        CHECKS.due("a friend's cost", apart.cost(0, 0, 1, 50, 1), 50 + 5 - 9 - 5);
    }

    private static void better() {
        PavementWalk walk = Checks.told("size 4 2;walker 0 0 east;walker 3 0 west;", "wait;");
        CHECKS.due("one LAW", walk.better(0, 1, 9), 0);
        Checks.law(walk, "if blocked and facing:right;go;");
        Checks.law(walk, "if ahead<9 and facing:right;go;");
        CHECKS.due("the 2nd", walk.better(0, 1, 20), 1);
        CHECKS.due("too few TENTHS", walk.better(0, 1, 1), 0);
        CHECKS.due("no PASSAGE", walk.better(1, 1, 9), NONE);
        CHECKS.due("n 0", walk.better(0, 1, 0), NONE);
        CHECKS.due("n 201", walk.better(0, 1, 201), NONE);
        CHECKS.due("n 200", walk.better(0, 1, 200), 1);
        PavementWalk none = new PavementWalk();
        Checks.passage(none, "size 4 2;");
        CHECKS.due("no LAWS", none.better(0, 1, 9), NONE);
        Checks.law(none, "go;");
        CHECKS.due("no WALKERS", none.better(0, 1, 9), 0);
    }

    private static void flow() {
        PavementWalk walk = Checks.told("size 16 3;walker 15 0 east;walker 14 1 east;walker 5 0 east;"
            + "walker 4 1 east;walker 4 2 east;", "go;");
        // They ARRIVE in the TENTHS 0, 1, 10, 11, 11.
        CHECKS.due("1 and 10", walk.flow(0, 0, 1, 11), 2);
        CHECKS.due("of the first 12", walk.flow(0, 0, 1, 12), 3);
        CHECKS.due("of the first 10", walk.flow(0, 0, 1, 10), 2);
        CHECKS.due("of the first 2", walk.flow(0, 0, 1, 2), 2);
        CHECKS.due("of the first 1", walk.flow(0, 0, 1, 1), 1);
        CHECKS.due("of 200", walk.flow(0, 0, 1, 200), 3);
        CHECKS.due("n 0", walk.flow(0, 0, 1, 0), NONE);
        CHECKS.due("n 201", walk.flow(0, 0, 1, 201), NONE);
        CHECKS.due("no PASSAGE", walk.flow(1, 0, 1, 9), NONE);
        CHECKS.due("no LAW", walk.flow(0, 1, 1, 9), NONE);
        PavementWalk nine = Checks.told("size 16 2;walker 15 0 east;walker 6 1 east;", "go;");
        CHECKS.due("0 and 9 are ten TENTHS", nine.flow(0, 0, 1, 50), 2);
        PavementWalk ten = Checks.told("size 16 2;walker 15 0 east;walker 5 1 east;", "go;");
        CHECKS.due("0 and 10 are eleven", ten.flow(0, 0, 1, 50), 1);
        CHECKS.due("nobody", Checks.told("size 4 1;", "go;").flow(0, 0, 1, 50), 0);
    }

    private static void touch() {
        PavementWalk walk = Checks.told("size 8 3;walker 0 0 east;walker 7 1 west;walker 4 0 east;"
            + "walker 4 1 west;", "go;");
        // 0 at t, 1 at 7 - t, one row apart: never in one column, so their way is 1 only beside.
        CHECKS.due("they pass between TENTHS", walk.touch(0, 0, 1, 200, 0, 1), NONE);
        CHECKS.due("as TENTH 0 begins", walk.touch(0, 0, 1, 1, 2, 3), 0);
        CHECKS.due("the other way about", walk.touch(0, 0, 1, 1, 3, 2), 0);
        CHECKS.due("0 and 3 at 2", walk.touch(0, 0, 1, 3, 0, 3), 2);
        CHECKS.due("below n", walk.touch(0, 0, 1, 2, 0, 3), NONE);
        CHECKS.due("one of them", walk.touch(0, 0, 1, 9, 2, 2), NONE);
        CHECKS.due("n 0", walk.touch(0, 0, 1, 0, 2, 3), NONE);
        CHECKS.due("n 201", walk.touch(0, 0, 1, 201, 2, 3), NONE);
        CHECKS.due("no WALKER", walk.touch(0, 0, 1, 9, 2, 4), NONE);
        CHECKS.due("no WALKER", walk.touch(0, 0, 1, 9, -1, 3), NONE);
        CHECKS.due("no PASSAGE", walk.touch(1, 0, 1, 9, 2, 3), NONE);
        CHECKS.due("no LAW", walk.touch(0, 1, 1, 9, 2, 3), NONE);
        PavementWalk out = Checks.told("size 3 1;walker 2 0 east;walker 0 0 east;", "go;");
        CHECKS.due("who is out touches none", out.touch(0, 0, 1, 50, 0, 1), NONE);
    }

    private static void slack() {
        // 0 gives way to 1 as soon as he sees him near; 1 gives way to none.
        String text = "size 9 2;walker 0 0 east;walker 8 0 west;haste 1 9;";
        PavementWalk walk = Checks.told(text, "if ahead<3 and facing and haste=0:right;go;");
        int due = NONE;
        for (int late = 0; late < 4; late++) {
            PavementWalk run = Checks.running(text + "late 0 " + late + ";",
                "if ahead<3 and facing and haste=0:right;go;", 1);
            run.go(50);
            due = run.state(1) == 2 ? late : due;
        }
        CHECKS.due("SLACK of 0", walk.slack(0, 0, 1, 50, 0), due);
        CHECKS.due("too few TENTHS", walk.slack(0, 0, 1, 8, 0), NONE);
        CHECKS.due("no WALKER", walk.slack(0, 0, 1, 50, 2), NONE);
        CHECKS.due("no WALKER", walk.slack(0, 0, 1, 50, -1), NONE);
        CHECKS.due("n 0", walk.slack(0, 0, 1, 0, 0), NONE);
        CHECKS.due("n 201", walk.slack(0, 0, 1, 201, 0), NONE);
        CHECKS.due("no PASSAGE", walk.slack(1, 0, 1, 50, 0), NONE);
        CHECKS.due("no LAW", walk.slack(0, 1, 1, 50, 0), NONE);
        CHECKS.due("told as before", walk.walker(0, 0, 4), 0);
        PavementWalk blind = Checks.told("size 4 2;walker 0 0 east;late 0 2;", "go;");
        CHECKS.due("in place of his", blind.slack(0, 0, 1, 4, 0), 3);
        // 1 leaves in TENTH 0; a LATE 0 sees him L + 1 TENTHS and goes then.
        PavementWalk waits = Checks.told("size 2 2;walker 0 0 east;walker 0 1 west;haste 1 1;",
            "if haste=1:go;if near<9:wait;go;");
        CHECKS.due("6 TENTHS", waits.slack(0, 0, 1, 6, 0), 3);
        CHECKS.due("5 TENTHS", waits.slack(0, 0, 1, 5, 0), 2);
        CHECKS.due("4 TENTHS", waits.slack(0, 0, 1, 4, 0), 1);
        CHECKS.due("3 TENTHS", waits.slack(0, 0, 1, 3, 0), 0);
        CHECKS.due("2 TENTHS", waits.slack(0, 0, 1, 2, 0), NONE);
    }

    private static void opened() {
        PavementWalk walk = Checks.told("size 5 2;wall 2 0;wall 3 1;wall 2 1;walker 0 0 east;"
            + "walker 0 1 east;", "go;");
        CHECKS.due("OPENED", walk.opened(0, 0, 1, 20), 200);
        CHECKS.due("too few TENTHS", walk.opened(0, 0, 1, 4), NONE);
        CHECKS.due("told as before", walk.about(0, 3), 3);
        PavementWalk two = Checks.told("size 5 2;wall 3 0;wall 2 1;walker 0 0 east;walker 0 1 east;"
            + "walker 1 1 east;", "go;");
        CHECKS.due("most ARRIVE", two.opened(0, 0, 1, 20), 201);
        PavementWalk same = Checks.told("size 5 2;wall 3 1;wall 3 0;walker 0 0 east;walker 0 1 east;",
            "go;");
        CHECKS.due("of several the least y", same.opened(0, 0, 1, 20), 300);
        CHECKS.due("n 0", walk.opened(0, 0, 1, 0), NONE);
        CHECKS.due("n 101", walk.opened(0, 0, 1, 101), NONE);
        CHECKS.due("n 100", walk.opened(0, 0, 1, 100), 200);
        CHECKS.due("no PASSAGE", walk.opened(1, 0, 1, 9), NONE);
        CHECKS.due("no LAW", walk.opened(0, 1, 1, 9), NONE);
        PavementWalk none = Checks.told("size 5 2;walker 0 0 east;", "go;");
        CHECKS.due("no WALLS", none.opened(0, 0, 1, 20), NONE);
    }

    private static void fits() {
        PavementWalk walk = Checks.told("size 5 2;walker 0 0 east;walker 3 1 east;", "go;");
        CHECKS.due("an empty FILM", walk.fits(0, 0, 1), 0);
        walk.hat(0, 3, 1);
        CHECKS.due("one is missing", walk.fits(0, 0, 1), 0);
        walk.hat(0, 0, 0);
        CHECKS.due("just these", walk.fits(0, 0, 1), 1);
        walk.hat(1, 1, 0);
        walk.hat(1, 4, 1);
        walk.hat(2, 2, 0);
        walk.hat(3, 3, 0);
        walk.hat(3, 3, 1);
        walk.hat(4, 4, 0);
        walk.hat(5, 4, 0);
        CHECKS.due("FRAMES 0, 1, 2, 4", walk.fits(0, 0, 1), 4);
        CHECKS.due("no PASSAGE", walk.fits(1, 0, 1), NONE);
        CHECKS.due("no LAW", walk.fits(0, 1, 1), NONE);
        walk.hat(0, 0, 0);
        CHECKS.due("a HAT twice on one SQUARE", walk.fits(0, 0, 1), 4);
        walk.hat(7, 4, 0);
        CHECKS.due("nobody there", walk.fits(0, 0, 1), 4);
    }

    private static void trialsLeaveTheRun() {
        PavementWalk walk = Checks.running("size 5 2;walker 0 0 east;walker 4 0 west;wall 2 1;", "lot;", 5);
        walk.go(3);
        int lots = walk.state(6);
        walk.two(0, 0, 8, 0);
        walk.fullest(0, 0, 1, 20);
        walk.pillar(0, 0, 1, 20);
        walk.opened(0, 0, 1, 20);
        walk.cost(0, 0, 1, 20, 0);
        walk.slack(0, 0, 1, 20, 1);
        walk.fits(0, 0, 1);
        CHECKS.due("TENTH", walk.state(0), 3);
        CHECKS.due("lots", walk.state(6), lots);
        CHECKS.due("WALKERS", walk.about(0, 2), 2);
        CHECKS.due("WALLS", walk.about(0, 3), 1);
        CHECKS.due("LATE", walk.walker(0, 1, 4), 0);
    }
}
