import java.util.ArrayList;
import java.util.List;
import java.util.Random;

/**
 * Promises 35 and 36 on random rows of calls: what an object is after all its images is what a new
 * one becomes by those calls alone that its images have left standing.
 */
final class ReplayTest {
    private static final Checks CHECKS = new Checks();
    private static final int NONE = PavementWalk.NONE;
    private static final int IMAGES = 3;

    public static void main(String[] args) {
        Random random = new Random(36);
        for (int k = 0; k < 1500; k++) {
            row(k, random);
        }
        CHECKS.finish("ReplayTest");
    }

    private static void row(int number, Random random) {
        PavementWalk walk = new PavementWalk();
        List<Change> stand = new ArrayList<>();
        List<List<Change>> images = new ArrayList<>(List.of(List.of(), List.of(), List.of()));
        boolean[] kept = new boolean[IMAGES];
        for (int call = 0; call < 60; call++) {
            int k = random.nextInt(IMAGES);
            switch (random.nextInt(8)) {
                case 0:
                    CHECKS.due("image " + k, walk.image(k), true);
                    images.set(k, List.copyOf(stand));
                    kept[k] = true;
                    break;
                case 1:
                    CHECKS.due("again " + k, walk.again(k), kept[k]);
                    if (kept[k]) {
                        stand = new ArrayList<>(images.get(k));
                    }
                    break;
                case 2:
                    // Questions in between must not change what comes.
                    answers(walk);
                    break;
                default:
                    Change change = change(random);
                    change.on(walk);
                    stand.add(change);
                    break;
            }
        }
        PavementWalk fresh = new PavementWalk();
        for (Change change : stand) {
            change.on(fresh);
        }
        String name = "row " + number + ": ";
        CHECKS.due(name + "all answers alike", answers(walk).equals(answers(fresh)), true);
        CHECKS.due(name + "the tape's law", walk.law(0), fresh.law(0));
        CHECKS.due(name + "its place", walk.fault(1), fresh.fault(1));
        CHECKS.due(name + "moves", walk.go(30), fresh.go(30));
        CHECKS.due(name + "all answers alike then", answers(walk).equals(answers(fresh)), true);
    }

    private interface Change {
        void on(PavementWalk walk);
    }

    /** A call that changes something; it is told at random now, and the same each time it is made. */
    private static Change change(Random random) {
        int a = random.nextInt(4) - 1;
        int b = random.nextInt(3);
        int n = random.nextInt(1 << 16);
        switch (random.nextInt(9)) {
            case 0: return told(Model.randomPlace(random, 1 + random.nextInt(6)).text, random, w -> w.passage(a));
            case 1: return told(Model.randomLaw(random).text, random, w -> w.law(a));
            case 2: return told("size 2 1;walker 0 0 east;", random, w -> w.passage(NONE));
            case 3: return told("if blocked:lot;go;", random, w -> w.law(NONE));
            case 4: return w -> w.run(b, n % 2, n);
            case 5: return w -> w.go(n % 9);
            case 6: return n % 9 == 0 ? PavementWalk::dark : w -> w.hat(n % 8, n / 8 % 16, n / 128 % 6);
            case 7: return w -> w.feed(0x676f3b20, n, 0x676f3b20, 0x6c6f743b, 0x20202020);
            default: return w -> w.end(n % 200);
        }
    }

    /** A text, now and then without its end, and the call that takes it. */
    private static Change told(String text, Random random, Change taken) {
        String some = random.nextInt(8) == 0 ? text.substring(0, text.length() / 2) : text;
        return w -> {
            w.end(0);
            Checks.tell(w, some.length() > 480 ? "" : some);
            taken.on(w);
        };
    }

    /** All that can be asked without a change, in a row. */
    private static List<Integer> answers(PavementWalk walk) {
        List<Integer> row = new ArrayList<>();
        int bytes = 500;
        while (walk.end(bytes) == NONE) {
            bytes--;
        }
        row.add(bytes);
        for (int what = 0; what < 10; what++) {
            row.add(walk.count(what));
            row.add(walk.state(what));
            row.add(walk.fault(what));
        }
        for (int k = 0; k < 3; k++) {
            row.add(walk.rules(k));
            for (int what = 0; what < 4; what++) {
                row.add(walk.about(k, what));
            }
            for (int w = 0; w < 6; w++) {
                for (int what = 0; what < 8; what++) {
                    row.add(walk.walker(k, w, what));
                }
            }
        }
        for (int w = 0; w < 6; w++) {
            row.add(walk.does(w));
            for (int what = 0; what < 11; what++) {
                row.add(walk.ran(w, what));
                row.add(walk.finds(w, what));
            }
        }
        for (int x = 0; x < 16; x++) {
            row.add(walk.on(x, x % 6));
            for (int what = 0; what < 3; what++) {
                row.add(walk.door(x, what));
            }
        }
        trials(walk, row);
        return row;
    }

    private static void trials(PavementWalk walk, List<Integer> row) {
        for (int k = 0; k < 3; k++) {
            row.add(walk.fullest(k, 0, 7, 9));
            row.add(walk.pillar(k, 0, 7, 9));
            row.add(walk.cost(k, 1, 7, 9, 1));
            row.add(walk.better(k, 7, 9));
            row.add(walk.two(k, 0, 3, 0));
            row.add(walk.slack(k, 1, 7, 9, 0));
            row.add(walk.fits(k, 0, 7));
        }
        for (int f = 0; f < 8; f++) {
            row.add(walk.worth(f, 9));
            row.add(walk.match(f, 9, 0));
            row.add(walk.track(0, 1, 9, f));
        }
    }
}
