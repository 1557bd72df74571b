/** Promises 35 and 36: images of all that is told. */
final class ImageTest {
    private static final Checks CHECKS = new Checks();

    public static void main(String[] args) {
        imagesKeepAll();
        imagesAreApart();
        tapeAndFault();
        runsGoOnFromImages();
        runsKeepWhatTheyCounted();
        filmsKeepTheirPlaces();
        askedWrongly();
        CHECKS.finish("ImageTest");
    }

    private static PavementWalk full() {
        PavementWalk walk = Checks.running("size 9 3;wall 4 0;walker 0 1 east;walker 8 1 west;"
            + "late 0 1;", "if ahead<2:lot;go;", 77);
        walk.hat(0, 0, 1);
        walk.hat(3, 5, 5);
        return walk;
    }

    private static void imagesKeepAll() {
        PavementWalk walk = full();
        walk.go(4);
        CHECKS.due("image", walk.image(1), true);
        int x = walk.ran(0, 0);
        int y = walk.ran(0, 1);
        int lots = walk.state(6);
        walk.go(10);
        Checks.tell(walk, "size 2 1;");
        walk.passage(0);
        Checks.tell(walk, "wait;");
        walk.law(0);
        Checks.law(walk, "go;");
        walk.dark();
        walk.run(0, 0, 3);
        CHECKS.due("again", walk.again(1), true);
        CHECKS.due("TENTH", walk.state(0), 4);
        CHECKS.due("lots", walk.state(6), lots);
        CHECKS.due("x", walk.ran(0, 0), x);
        CHECKS.due("y", walk.ran(0, 1), y);
        CHECKS.due("WALL in the RUN", walk.on(4, 0), 100);
        CHECKS.due("LENGTH", walk.about(0, 0), 9);
        CHECKS.due("RULES", walk.rules(0), 2);
        CHECKS.due("LAWS", walk.count(1), 1);
        CHECKS.due("HATS", walk.count(2), 1);
        CHECKS.due("a HAT's place", walk.hat(3, 1, 1), 1);
        CHECKS.due("again, once more", walk.again(1), true);
        CHECKS.due("HATS of FRAME 3", walk.count(5), 1);
    }

    private static void imagesAreApart() {
        PavementWalk walk = full();
        walk.image(0);
        walk.go(3);
        walk.image(2);
        walk.go(3);
        CHECKS.due("again(0)", walk.again(0), true);
        CHECKS.due("TENTH of 0", walk.state(0), 0);
        CHECKS.due("again(2)", walk.again(2), true);
        CHECKS.due("TENTH of 2", walk.state(0), 3);
        CHECKS.due("again(1)", walk.again(1), false);
        CHECKS.due("nothing else", walk.state(0), 3);
        walk.image(0);
        walk.go(1);
        walk.again(0);
        CHECKS.due("0 made anew", walk.state(0), 3);
        PavementWalk bare = new PavementWalk();
        bare.image(0);
        Checks.passage(bare, "size 2 1;");
        Checks.law(bare, "go;");
        bare.run(0, 0, 1);
        CHECKS.due("again", bare.again(0), true);
        CHECKS.due("no PASSAGES", bare.count(0), 0);
        CHECKS.due("no LAWS", bare.count(1), 0);
        CHECKS.due("no RUN", bare.go(1), -1);
    }

    private static void tapeAndFault() {
        PavementWalk walk = new PavementWalk();
        Checks.passage(walk, "size 1 1;");
        Checks.tell(walk, "size 7 2;");
        walk.image(0);
        CHECKS.due("passage", walk.passage(-1), 0);
        CHECKS.due("no FAULT", walk.fault(0), 0);
        CHECKS.due("again", walk.again(0), true);
        CHECKS.due("FAULT", walk.fault(0), 2);
        CHECKS.due("place", walk.fault(1), 5);
        CHECKS.due("the tape", walk.end(9), 9);
        CHECKS.due("its end", walk.end(10), -1);
        CHECKS.due("its text", walk.passage(-1), 0);
        CHECKS.due("LENGTH", walk.about(0, 0), 7);
        Checks.tell(walk, "size 5 3;");
        walk.image(1);
        walk.end(0);
        Checks.tell(walk, "size 6 4;");
        CHECKS.due("again", walk.again(1), true);
        CHECKS.due("the tape's text", walk.passage(-1), 1);
        CHECKS.due("LENGTH of the image's text", walk.about(1, 0), 5);
        CHECKS.due("WIDTH of the image's text", walk.about(1, 1), 3);
    }

    private static void runsGoOnFromImages() {
        PavementWalk walk = full();
        walk.go(4);
        walk.image(0);
        walk.go(6);
        int[] due = new int[14];
        for (int k = 0; k < 7; k++) {
            due[k] = walk.ran(0, k);
            due[7 + k] = walk.ran(1, k);
        }
        int lots = walk.state(6);
        int steps = walk.door(3, 2);
        int longest = walk.door(3, 1);
        for (int times = 0; times < 2; times++) {
            walk.again(0);
            walk.go(6);
            for (int k = 0; k < 7; k++) {
                CHECKS.due("ran 0 " + k, walk.ran(0, k), due[k]);
                CHECKS.due("ran 1 " + k, walk.ran(1, k), due[7 + k]);
            }
            CHECKS.due("lots", walk.state(6), lots);
            CHECKS.due("steps", walk.door(3, 2), steps);
            CHECKS.due("longest", walk.door(3, 1), longest);
        }
    }

    private static void runsKeepWhatTheyCounted() {
        PavementWalk walk = Checks.running("size 16 3;walker 1 0 west;walker 13 1 east;wall 9 2;"
            + "walker 8 2 east;walker 2 2 east;pace 3 4;late 3 3;haste 3 2;walker 5 2 west;", "go;", 1);
        walk.go(5);
        int[] due = new int[35];
        for (int k = 0; k < 35; k++) {
            due[k] = walk.ran(k / 7, k % 7);
        }
        int[] finds = new int[10];
        for (int k = 0; k < 10; k++) {
            finds[k] = walk.finds(3, k);
        }
        CHECKS.due("image", walk.image(2), true);
        walk.go(20);
        Checks.passage(walk, "size 2 1;walker 0 0 east;");
        walk.run(1, 0, 8);
        CHECKS.due("again", walk.again(2), true);
        for (int k = 0; k < 35; k++) {
            CHECKS.due("ran " + k / 7 + " " + k % 7, walk.ran(k / 7, k % 7), due[k]);
        }
        for (int k = 0; k < 10; k++) {
            CHECKS.due("finds " + k, walk.finds(3, k), finds[k]);
        }
        CHECKS.due("0 ARRIVED in", walk.ran(0, 2), 1);
        CHECKS.due("2 bumps", walk.ran(2, 5), 5);
        CHECKS.due("waited", walk.ran(2, 6), 5);
        CHECKS.due("door 14", walk.door(14, 2), 1);
        CHECKS.due("STANDS not", walk.state(2), 0);
    }

    private static void filmsKeepTheirPlaces() {
        PavementWalk walk = new PavementWalk();
        walk.hat(6, 90, 3);
        walk.hat(6, 3, 90);
        walk.hat(7, 2, 91);
        walk.hat(7, 70, 3);
        walk.hat(7, 91, 2);
        walk.image(0);
        walk.dark();
        walk.hat(6, 0, 0);
        walk.hat(7, 0, 0);
        walk.hat(7, 0, 0);
        walk.hat(7, 0, 0);
        walk.hat(6, 0, 0);
        CHECKS.due("worth of another FILM", walk.worth(6, 50), 50);
        CHECKS.due("again", walk.again(0), true);
        CHECKS.due("worth", walk.worth(6, 50), 2 + 2 + 50);
        CHECKS.due("0", walk.match(6, 50, 0), 2);
        CHECKS.due("1", walk.match(6, 50, 1), 0);
    }

    private static void askedWrongly() {
        PavementWalk walk = full();
        CHECKS.due("image(-1)", walk.image(-1), false);
        CHECKS.due("image(3)", walk.image(3), false);
        CHECKS.due("again(-1)", walk.again(-1), false);
        CHECKS.due("again(3)", walk.again(3), false);
        CHECKS.due("again(0)", walk.again(0), false);
        CHECKS.due("image(0)", walk.image(0), true);
        CHECKS.due("again(0)", walk.again(0), true);
        CHECKS.due("again(2)", walk.again(2), false);
    }
}
