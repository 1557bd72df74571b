import java.util.Random;

/** Promises 28 to 32: HATS of a FILM, MATCH and TRACK. */
final class FilmTest {
    private static final Checks CHECKS = new Checks();
    private static final int NONE = PavementWalk.NONE;

    public static void main(String[] args) {
        hatsAreTold();
        matches();
        leastRow();
        randomMatches();
        tracks();
        askedWrongly();
        CHECKS.finish("FilmTest");
    }

    private static void hatsAreTold() {
        PavementWalk walk = new PavementWalk();
        for (int k = 0; k < 6; k++) {
            CHECKS.due("hat " + k, walk.hat(7, 99 - k, k), k);
        }
        CHECKS.due("a 7th", walk.hat(7, 1, 1), NONE);
        CHECKS.due("another FRAME", walk.hat(0, 0, 0), 0);
        CHECKS.due("the same place", walk.hat(0, 0, 0), 1);
        CHECKS.due("the last place", walk.hat(0, 99, 99), 2);
        int[][] bad = {{-1, 0, 0}, {8, 0, 0}, {0, -1, 0}, {0, 100, 0}, {0, 0, -1}, {0, 0, 100}};
        for (int[] b : bad) {
            CHECKS.due("hat " + b[0] + " " + b[1] + " " + b[2], walk.hat(b[0], b[1], b[2]), NONE);
        }
        CHECKS.due("count of 0", walk.count(2), 3);
        CHECKS.due("count of 1", walk.count(3), 0);
        CHECKS.due("count of 7", walk.count(9), 6);
        CHECKS.due("dark", walk.dark(), 9);
        CHECKS.due("count of 7", walk.count(9), 0);
        CHECKS.due("dark again", walk.dark(), 0);
        CHECKS.due("from 0 on again", walk.hat(7, 5, 5), 0);
    }

    private static void matches() {
        PavementWalk walk = new PavementWalk();
        walk.hat(2, 10, 10);
        walk.hat(2, 20, 10);
        walk.hat(3, 21, 11);
        walk.hat(3, 90, 90);
        walk.hat(3, 10, 13);
        CHECKS.due("0 goes with 2", walk.match(2, 5, 0), 2);
        CHECKS.due("1 goes with 0", walk.match(2, 5, 1), 0);
        CHECKS.due("worth", walk.worth(2, 5), 3 + 2 + 5);
        CHECKS.due("0 with none", walk.match(2, 1, 0), NONE);
        CHECKS.due("1 with 0, as cheap as none", walk.match(2, 1, 1), 0);
        CHECKS.due("worth", walk.worth(2, 1), 1 + 2 + 1 + 1);
        CHECKS.due("g 0", walk.worth(2, 0), 0);
        CHECKS.due("g 0 matches none", walk.match(2, 0, 1), NONE);
        CHECKS.due("g 99", walk.worth(2, 99), 3 + 2 + 99);
        CHECKS.due("all of the next are free", walk.worth(1, 7), 2 * 7);
        CHECKS.due("none in the next", walk.worth(3, 7), 3 * 7);
        CHECKS.due("none in the next", walk.match(3, 7, 1), NONE);
        CHECKS.due("two empty FRAMES", walk.worth(5, 7), 0);
        // Together the least: not each with his nearest.
        PavementWalk chain = new PavementWalk();
        chain.hat(0, 0, 0);
        chain.hat(0, 3, 0);
        chain.hat(1, 2, 0);
        chain.hat(1, 99, 0);
        chain.hat(1, 50, 50);
        CHECKS.due("3 is nearer to 2", chain.match(0, 20, 0), NONE);
        CHECKS.due("it has it", chain.match(0, 20, 1), 0);
        CHECKS.due("worth", chain.worth(0, 20), 1 + 20 * 3);
    }

    private static void leastRow() {
        PavementWalk walk = new PavementWalk();
        for (int k = 0; k < 3; k++) {
            walk.hat(0, 5, 5);
            walk.hat(1, 5, 5);
        }
        for (int k = 0; k < 3; k++) {
            CHECKS.due("all alike: " + k, walk.match(0, 9, k), k);
        }
        PavementWalk square = new PavementWalk();
        square.hat(0, 0, 0);
        square.hat(0, 1, 1);
        square.hat(1, 1, 0);
        square.hat(1, 0, 1);
        CHECKS.due("either way 2", square.worth(0, 50), 2);
        CHECKS.due("the least row", square.match(0, 50, 0), 0);
        CHECKS.due("the least row", square.match(0, 50, 1), 1);
        PavementWalk one = new PavementWalk();
        one.hat(0, 4, 4);
        one.hat(0, 4, 4);
        one.hat(1, 4, 4);
        CHECKS.due("none is the greatest", one.match(0, 3, 0), 0);
        CHECKS.due("so the 2nd has none", one.match(0, 3, 1), NONE);
        one.hat(3, 0, 0);
        one.hat(4, 4, 4);
        CHECKS.due("8 for two alone, 8 for the couple", one.match(3, 4, 0), 0);
    }

    /** All rows, one after the other as they are ordered: the first one of the least cost. */
    private static long bestRow(int[][] a, int[][] b, int g, int h, long row, int used, int[] best) {
        if (h == a.length) {
            int cost = g * (b.length - Integer.bitCount(used));
            long rest = row;
            for (int i = a.length - 1; i >= 0; i--) {
                int n = (int) (rest % 7);
                rest /= 7;
                cost += n == 6 ? g : Math.abs(a[i][0] - b[n][0]) + Math.abs(a[i][1] - b[n][1]);
            }
            if (cost < best[0]) {
                best[0] = cost;
                return row;
            }
            return -1;
        }
        long found = -1;
        for (int n = 0; n < 7; n++) {
            if (n == 6 || n < b.length && (used >> n & 1) == 0) {
                int more = n == 6 ? used : used | 1 << n;
                long deeper = bestRow(a, b, g, h + 1, row * 7 + n, more, best);
                found = deeper >= 0 ? deeper : found;
            }
        }
        return found;
    }

    private static void randomMatches() {
        Random random = new Random(6);
        for (int k = 0; k < 300; k++) {
            PavementWalk walk = new PavementWalk();
            int size = k % 3 == 0 ? 100 : 4;
            int[][] a = new int[random.nextInt(7)][];
            int[][] b = new int[random.nextInt(7)][];
            int frame = random.nextInt(7);
            for (int i = 0; i < a.length; i++) {
                a[i] = new int[] {random.nextInt(size), random.nextInt(size)};
                walk.hat(frame, a[i][0], a[i][1]);
            }
            for (int i = 0; i < b.length; i++) {
                b[i] = new int[] {random.nextInt(size), random.nextInt(size)};
                walk.hat(frame + 1, b[i][0], b[i][1]);
            }
            int g = random.nextInt(size);
            int[] best = {Integer.MAX_VALUE};
            long row = bestRow(a, b, g, 0, 0, 0, best);
            CHECKS.due("film " + k + " worth", walk.worth(frame, g), best[0]);
            for (int i = a.length - 1; i >= 0; i--) {
                int n = (int) (row % 7);
                row /= 7;
                CHECKS.due("film " + k + " hat " + i, walk.match(frame, g, i), n == 6 ? NONE : n);
            }
        }
    }

    private static void tracks() {
        PavementWalk walk = new PavementWalk();
        for (int f = 0; f < 8; f++) {
            if (f != 5) {
                walk.hat(f, 50, 50 + f % 2);
            }
            walk.hat(f, f, 0);
        }
        CHECKS.due("itself", walk.track(0, 1, 9, 0), 1);
        CHECKS.due("one on", walk.track(0, 1, 9, 1), 1);
        CHECKS.due("to 5", walk.track(0, 1, 9, 5), 0);
        CHECKS.due("to 7", walk.track(0, 1, 9, 7), 1);
        CHECKS.due("from 6 to 7", walk.track(6, 0, 9, 7), 0);
        CHECKS.due("the other one to 4", walk.track(2, 0, 9, 4), 0);
        CHECKS.due("to 5 it does not go", walk.track(2, 0, 9, 5), NONE);
        CHECKS.due("nor to 6", walk.track(2, 0, 9, 6), NONE);
        CHECKS.due("in 7 itself", walk.track(7, 1, 9, 7), 1);
        CHECKS.due("without a couple", walk.track(0, 1, 0, 1), NONE);
        CHECKS.due("ahead of its own", walk.track(3, 0, 9, 2), NONE);
        CHECKS.due("to 8", walk.track(3, 0, 9, 8), NONE);
        CHECKS.due("from -1", walk.track(-1, 0, 9, 2), NONE);
        CHECKS.due("from 8", walk.track(8, 0, 9, 8), NONE);
        CHECKS.due("no HAT", walk.track(3, 2, 9, 3), NONE);
        CHECKS.due("no HAT", walk.track(3, -1, 9, 3), NONE);
        CHECKS.due("g 100", walk.track(3, 0, 100, 3), NONE);
        CHECKS.due("g -1", walk.track(3, 0, -1, 3), NONE);
    }

    private static void askedWrongly() {
        PavementWalk walk = new PavementWalk();
        walk.hat(0, 1, 1);
        walk.hat(1, 1, 1);
        walk.hat(7, 1, 1);
        CHECKS.due("match", walk.match(0, 5, 0), 0);
        CHECKS.due("FRAME -1", walk.match(-1, 5, 0), NONE);
        CHECKS.due("FRAME 7", walk.match(7, 5, 0), NONE);
        CHECKS.due("g -1", walk.match(0, -1, 0), NONE);
        CHECKS.due("g 100", walk.match(0, 100, 0), NONE);
        CHECKS.due("HAT 1", walk.match(0, 5, 1), NONE);
        CHECKS.due("HAT -1", walk.match(0, 5, -1), NONE);
        CHECKS.due("worth of FRAME -1", walk.worth(-1, 5), NONE);
        CHECKS.due("worth of FRAME 7", walk.worth(7, 5), NONE);
        CHECKS.due("worth of FRAME 6", walk.worth(6, 5), 5);
        CHECKS.due("worth by -1", walk.worth(0, -1), NONE);
        CHECKS.due("worth by 100", walk.worth(0, 100), NONE);
        CHECKS.due("worth by 99", walk.worth(6, 99), 99);
    }
}
