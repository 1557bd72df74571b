/** Promises 34 to 36: how many there are of each, and images of all that is told. */
final class EdgesOfImages {
    private static final int NONE = PavementWalk.NONE;
    private static final int LEAST = Integer.MIN_VALUE;
    private static final int GREATEST = Integer.MAX_VALUE;
    private static final String IMAGE = "Image k (0 .. 2) is all that is told (the tape, the FAULT, the RUN, too), as "
        + "it is now: true";
    private static final String BUSY = "size 16 6;walker 0 1 east;walker 9 1 west;late 0 3;haste 1 4;pace 1 2;"
        + "walker 3 5 east;hand 2 left;walker 4 3 west;friends 0 3;walker 15 0 east;walker 2 4 east;wall 2 5;"
        + "wall 3 4;";
    private static final String BUSY_LAW = "if waited=13:lot;if near<3:hand;if ahead=5:right;if blocked:lot;go;";

    private final Edges edges;

    EdgesOfImages(Edges edges) {
        this.edges = edges;
    }

    void test() {
        count();
        countRefused();
        allThatIsTold();
        ofTheTape();
        ofTheRun();
        ofWhatTheRunGoesBy();
        asItIsNow();
        imageRefused();
        again();
        againRefused();
        manyCalls();
    }

    private void count() {
        edges.promise(34, "How many: 0 PASSAGES, 1 LAWS, 2 + f: HATS in FRAME f.");
        PavementWalk walk = new PavementWalk();
        edges.dueRow("none", walk::count, 0, 0, 0, 0, 0, 0, 0, 0, 0, 0);
        Checks.passage(walk, "size 1 1;");
        Checks.law(walk, "if");
        edges.dueRow("FAULTS are none", walk::count, 0, 0);
        for (int k = 0; k < 4; k++) {
            Checks.passage(walk, "size 2 1;");
            edges.due("PASSAGES", walk.count(0), Math.min(3, k + 1));
            edges.due("LAWS", walk.count(1), Math.min(3, k));
            Checks.law(walk, "");
        }
        for (int f = 0; f < 8; f++) {
            for (int h = 0; h <= f; h++) {
                walk.hat(f, 0, 0);
            }
        }
        edges.dueRow("HATS, 6 at most", walk::count, 3, 3, 1, 2, 3, 4, 5, 6, 6, 6);
        Checks.tell(walk, "size 3 1;");
        walk.passage(0);
        Checks.tell(walk, "go;");
        walk.law(2);
        edges.dueRow("in the place of one", walk::count, 3, 3);
    }

    private void countRefused() {
        edges.promise(34, "-2 for another what.");
        PavementWalk walk = new PavementWalk();
        edges.dueAll("count", walk::count, -2, 10, 11, -1, -2, LEAST, GREATEST);
    }

    private static PavementWalk full() {
        PavementWalk walk = Checks.running("size 9 3;wall 8 2;walker 0 1 east;", "if right>0:lot;go;", 77);
        Checks.passage(walk, "size 2 1;");
        Checks.law(walk, "go;go;");
        walk.hat(0, 7, 9);
        walk.hat(7, 1, 1);
        walk.hat(7, 2, 2);
        Checks.passage(walk, "size 2 9;");
        Checks.tell(walk, "size 5 4;");
        return walk;
    }

    private void isFull(String when, PavementWalk walk) {
        edges.dueRow(when + ", count", walk::count, 2, 2, 1, 0, 0, 0, 0, 0, 0, 2);
        edges.dueRow(when + ", fault", walk::fault, 2, 7);
        edges.dueRow(when + ", PASSAGE 0", what -> walk.about(0, what), 9, 3, 1, 1);
        edges.dueRow(when + ", its WALKER", what -> walk.walker(0, 0, what), 0, 1, 1, 1, 0, 0, 0, NONE);
        edges.dueRow(when + ", PASSAGE 1", what -> walk.about(1, what), 2, 1, 0, 0);
        edges.dueRow(when + ", RULES", walk::rules, 2, 2, NONE);
        edges.due(when + ", the tape", walk.end(10), NONE);
        edges.due(when + ", the tape", walk.end(9), 9);
        edges.due(when + ", the RUN's WALL", walk.on(8, 2), 100);
    }

    /** Tells all anew, so that nothing of it is as it was. */
    private static void tellAnew(PavementWalk walk) {
        walk.end(0);
        Checks.tell(walk, "size 16 6;wall 0 0;wall 1 1;walker 5 5 west;pace 0 4;late 0 3;haste 0 9;hand 0 left;");
        walk.passage(0);
        Checks.tell(walk, "wait;wait;wait;");
        walk.law(0);
        Checks.tell(walk, "left;left;left;left;");
        walk.law(1);
        Checks.passage(walk, "size 7 7;oh");
        Checks.passage(walk, "size 4 4;");
        walk.dark();
        walk.hat(0, 99, 99);
        walk.hat(3, 99, 99);
        walk.run(0, 1, -5);
        walk.go(3);
        Checks.tell(walk, "0123456789012345678901234567890123456789");
    }

    private void allThatIsTold() {
        edges.promise(35, IMAGE);
        for (int k = 0; k < 3; k++) {
            PavementWalk walk = full();
            edges.due("image " + k, walk.image(k), true);
            isFull("behind image " + k, walk);
            tellAnew(walk);
            edges.due("PASSAGES told anew", walk.count(0), 3);
            edges.due("again " + k, walk.again(k), true);
            isFull("again " + k, walk);
            edges.due("HATS where they were", walk.worth(7, 9), NONE);
            walk.hat(1, 7, 10);
            edges.due("HATS where they were", walk.worth(0, 9), 1);
        }
    }

    private void ofTheTape() {
        edges.promise(35, IMAGE);
        PavementWalk walk = full();
        walk.image(0);
        tellAnew(walk);
        walk.again(0);
        edges.due("the tape's text", walk.passage(NONE), 2);
        edges.dueRow("as it was", what -> walk.about(2, what), 5, 4, 0, 0);
        PavementWalk long500 = new PavementWalk();
        for (int k = 0; k < 25; k++) {
            long500.feed(0x20202020, 0x20202020, 0x20202020, 0x20202020, k == 24 ? 0x20202021 : 0x20202020);
        }
        long500.image(1);
        long500.end(0);
        long500.again(1);
        edges.due("500 bytes", long500.end(500), 500);
        edges.due("a 501st one", long500.feed(0, 0, 0, 0, 0), NONE);
        edges.due("a LAW of the last byte", long500.law(NONE), NONE);
        edges.dueRow("its FAULT", long500::fault, 1, 499);
        PavementWalk empty = new PavementWalk();
        empty.image(2);
        Checks.passage(empty, "size 2 1;walker 0 0 east;");
        Checks.law(empty, "go;");
        edges.due("a RUN", empty.run(0, 0, 1), true);
        tellAnew(empty);
        edges.due("of an empty one", empty.again(2), true);
        edges.dueRow("count", empty::count, 0, 0, 0, 0, 0, 0, 0, 0, 0, 0);
        edges.dueRow("fault", empty::fault, 0, NONE);
        edges.due("no tape", empty.end(1), NONE);
        edges.due("no RUN", empty.state(0), NONE);
    }

    private void ofTheRun() {
        edges.promise(35, IMAGE);
        PavementWalk walk = Checks.running(BUSY, BUSY_LAW, 12345);
        for (int at = 0; at < 3; at++) {
            walk.go(1 + 4 * at);
            walk.image(at);
        }
        PavementWalk other = Checks.running(BUSY, BUSY_LAW, 12345);
        tellAnew(walk);
        for (int at = 0; at < 3; at++) {
            walk.again(at);
            other.run(0, 0, 12345);
            other.go(at == 0 ? 1 : at == 1 ? 6 : 15);
            for (int t = 0; t < 3; t++) {
                same("image " + at + ", " + t + " on", walk, other);
                edges.due("it goes on alike", walk.go(5), other.go(5));
            }
        }
        PavementWalk stands = Checks.running("size 2 1;walker 0 0 east;", "wait;", 1);
        stands.go(7);
        stands.image(0);
        stands.go(3);
        edges.due("STANDS", stands.state(2), 1);
        stands.image(1);
        stands.again(0);
        edges.due("STANDS not yet", stands.state(2), 0);
        stands.go(2);
        edges.due("nine TENTHS", stands.state(2), 0);
        stands.run(0, 0, 1);
        stands.again(1);
        edges.due("STANDS", stands.state(2), 1);
    }

    private void same(String when, PavementWalk walk, PavementWalk other) {
        for (int what = 0; what < 7; what++) {
            edges.due(when + ", state " + what, walk.state(what), other.state(what));
        }
        for (int w = 0; w < 6; w++) {
            for (int what = 0; what < 11; what++) {
                edges.due(when + ", finds " + w + " " + what, walk.finds(w, what), other.finds(w, what));
                edges.due(when + ", ran " + w + " " + what, walk.ran(w, what), other.ran(w, what));
            }
            edges.due(when + ", does " + w, walk.does(w), other.does(w));
        }
        for (int k = 0; k < 45; k++) {
            edges.due(when + ", door " + k, walk.door(k / 3, k % 3), other.door(k / 3, k % 3));
        }
    }

    /** A RUN has a LAW and a PASSAGE of its own, which come again with it. */
    private void ofWhatTheRunGoesBy() {
        edges.promise(35, IMAGE);
        PavementWalk walk = Checks.running("size 9 3;wall 4 1;walker 0 1 east;walker 8 2 west;pace 1 2;haste 0 3;",
            "if not ahead>2 and not blocked:left;if not waited<1 and not near<9:hand;go;", 6);
        Checks.tell(walk, "size 2 1;walker 1 0 east;");
        walk.passage(0);
        Checks.tell(walk, "wait;");
        walk.law(0);
        walk.image(0);
        Checks.law(walk, "left;");
        edges.due("another LAW", walk.count(1), 2);
        edges.due("another RUN", walk.run(0, 1, 1), true);
        walk.again(0);
        edges.due("LAWS", walk.count(1), 1);
        edges.due("the one told last", walk.rules(0), 1);
        edges.due("the RUN's LAW", walk.does(0), 0);
        edges.due("the RUN's second WALKER", walk.does(1), 0);
        edges.due("both go", walk.go(1), 2);
        edges.due("by its first RULE", walk.does(0), 2);
        edges.due("the RUN's WALL", walk.on(4, 1), 100);
        edges.due("his HASTE", walk.finds(0, 6), 3);
        edges.due("a new RUN", walk.run(0, 0, 1), true);
        edges.due("is of what is told", walk.does(0), 5);
    }

    private void asItIsNow() {
        edges.promise(35, IMAGE);
        PavementWalk walk = Checks.running("size 16 1;walker 0 0 east;", "go;", 1);
        for (int k = 0; k < 3; k++) {
            walk.go(1);
            walk.image(k);
        }
        walk.go(1);
        for (int k = 2; k >= 0; k--) {
            walk.again(k);
            edges.due("each is its own: " + k, walk.state(0), k + 1);
        }
        walk.image(2);
        walk.go(3);
        walk.again(2);
        edges.due("made anew", walk.state(0), 1);
        walk.again(1);
        edges.due("another one stays", walk.state(0), 2);
    }

    private void imageRefused() {
        edges.promise(35, "false for another k.");
        PavementWalk walk = Checks.running("size 16 1;walker 0 0 east;", "go;", 1);
        walk.image(0);
        walk.go(3);
        for (int k : new int[] {3, 4, -1, -2, LEAST, GREATEST}) {
            edges.due("image " + k, walk.image(k), false);
            edges.due("no image " + k, walk.again(k), false);
        }
        edges.due("nothing is made anew", walk.again(0), true);
        edges.due("0 is as it was", walk.state(0), 0);
        edges.due("no image 1", walk.again(1), false);
        edges.due("no image 2", walk.again(2), false);
    }

    private void again() {
        edges.promise(36, "All that is as image k has it: true");
        PavementWalk walk = full();
        walk.image(1);
        for (int times = 0; times < 3; times++) {
            tellAnew(walk);
            edges.due("again, " + times, walk.again(1), true);
            isFull("again, " + times, walk);
            // What comes behind it is not told to the image.
            walk.go(5);
            walk.passage(NONE);
            walk.hat(0, 1, 1);
        }
        walk.again(1);
        walk.image(0);
        tellAnew(walk);
        edges.due("the image of an image", walk.again(0), true);
        isFull("the image of an image", walk);
        edges.due("no further one", walk.again(2), false);
    }

    private void againRefused() {
        edges.promise(36, "false if there is none such.");
        PavementWalk walk = full();
        for (int k : new int[] {0, 1, 2, 3, -1, LEAST, GREATEST}) {
            edges.due("again " + k, walk.again(k), false);
            isFull("again refused", walk);
        }
        walk.image(1);
        tellAnew(walk);
        edges.due("0", walk.again(0), false);
        edges.due("2", walk.again(2), false);
        edges.due("all is as it was told anew", walk.count(0), 3);
        edges.due("1", walk.again(1), true);
    }

    private void manyCalls() {
        edges.term("An object is used for at most 512 calls after it has been made");
        PavementWalk walk = Checks.running("size 2 1;walker 0 0 east;", "wait;", 1);
        for (int k = 0; k < 500; k++) {
            walk.go(200);
        }
        edges.due("the TENTH", walk.state(0), 100000);
        edges.due("waited", walk.ran(0, 6), 99);
        PavementWalk bumps = Checks.running("size 2 1;walker 0 0 east;wall 1 0;", "if right=0:lot;", 1);
        for (int k = 0; k < 500; k++) {
            edges.due("image", bumps.image(k % 3), true);
            bumps.go(200);
        }
        edges.due("BUMPS", bumps.ran(0, 5), 100000);
        edges.due("lots", bumps.state(6), 100000);
        edges.due("again", bumps.again(1), true);
        edges.due("lots of an image", bumps.state(6), 499 * 200);
    }
}
