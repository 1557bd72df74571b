/** Promises 1 to 3: a new object, the tape. */
final class FaceTest {
    private static final Checks CHECKS = new Checks();

    public static void main(String[] args) {
        newObjectIsEmpty();
        tapeTakesTwentyBytes();
        tapeHasFiveHundredAtMost();
        tapeIsCut();
        CHECKS.finish("FaceTest");
    }

    private static void newObjectIsEmpty() {
        PavementWalk walk = new PavementWalk();
        CHECKS.due("NONE", PavementWalk.NONE, -1);
        for (int what = 0; what < 10; what++) {
            CHECKS.due("count(" + what + ")", walk.count(what), 0);
        }
        CHECKS.due("fault(0)", walk.fault(0), 0);
        CHECKS.due("fault(1)", walk.fault(1), -1);
        CHECKS.due("go(1) without a run", walk.go(1), -1);
        CHECKS.due("state(0) without a run", walk.state(0), -1);
        CHECKS.due("on(0, 0) without a run", walk.on(0, 0), -1);
        CHECKS.due("does(0) without a run", walk.does(0), -1);
        CHECKS.due("ran(0, 0) without a run", walk.ran(0, 0), -2);
        CHECKS.due("finds(0, 0) without a run", walk.finds(0, 0), -2);
        CHECKS.due("door(0, 0) without a run", walk.door(0, 0), -1);
        CHECKS.due("run(0, 0, 1)", walk.run(0, 0, 1), false);
        CHECKS.due("better(0, 1, 1)", walk.better(0, 1, 1), -1);
        CHECKS.due("dark()", walk.dark(), 0);
        for (int k = -1; k < 4; k++) {
            CHECKS.due("again(" + k + ")", walk.again(k), false);
        }
    }

    private static void tapeTakesTwentyBytes() {
        PavementWalk walk = new PavementWalk();
        // The highest byte of each number comes first: "go;go;go;go;go;go;go;" less its last byte.
        CHECKS.due("feed", walk.feed(0x676f3b67, 0x6f3b676f, 0x3b676f3b, 0x676f3b67, 0x6f3b676f), 20);
        CHECKS.due("feed", walk.feed(0x3b202020, 0x20202020, 0x20202020, 0x20202020, -1), 40);
        CHECKS.due("law with a byte 255", walk.law(-1), -1);
        CHECKS.due("its place", walk.fault(1), 36);
        walk.feed(0x676f3b67, 0x6f3b676f, 0x3b676f3b, 0x676f3b67, 0x6f3b676f);
        walk.feed(0x3b202020, 0x20202020, 0x20202020, 0x20202020, 0x2020200a);
        CHECKS.due("law", walk.law(-1), 0);
        CHECKS.due("rules", walk.rules(0), 7);
    }

    private static void tapeHasFiveHundredAtMost() {
        PavementWalk walk = new PavementWalk();
        for (int k = 1; k <= 25; k++) {
            CHECKS.due("feed " + k, walk.feed(0, 0, 0, 0, 0), 20 * k);
        }
        CHECKS.due("feed 26", walk.feed(0, 0, 0, 0, 0), -1);
        CHECKS.due("end(500)", walk.end(500), 500);
        CHECKS.due("end(481)", walk.end(481), 481);
        CHECKS.due("feed to 501", walk.feed(0, 0, 0, 0, 0), -1);
        CHECKS.due("end(481) again", walk.end(481), 481);
        CHECKS.due("end(480)", walk.end(480), 480);
        CHECKS.due("feed to 500", walk.feed(0, 0, 0, 0, 0), 500);
    }

    private static void tapeIsCut() {
        PavementWalk walk = new PavementWalk();
        CHECKS.due("end(0) of none", walk.end(0), 0);
        CHECKS.due("end(1) of none", walk.end(1), -1);
        walk.feed(1, 2, 3, 4, 5);
        CHECKS.due("end(21)", walk.end(21), -1);
        CHECKS.due("end(-1)", walk.end(-1), -1);
        CHECKS.due("end(min)", walk.end(Integer.MIN_VALUE), -1);
        CHECKS.due("end(20)", walk.end(20), 20);
        CHECKS.due("end(3)", walk.end(3), 3);
        CHECKS.due("end(4)", walk.end(4), -1);
        CHECKS.due("end(0)", walk.end(0), 0);
        CHECKS.due("feed", walk.feed(1, 2, 3, 4, 5), 20);
    }
}
