import java.util.ArrayList;
import java.util.List;
import java.util.Random;

/** Promises 8 and 10 to 27 on random PASSAGES and LAWS, against a slow model of the document. */
final class ModelTest {
    private static final Checks CHECKS = new Checks();
    private static final int NONE = PavementWalk.NONE;

    public static void main(String[] args) {
        Random random = new Random(20261119);
        for (int k = 0; k < 1500; k++) {
            Model.Place place = Model.randomPlace(random, 1 + random.nextInt(12));
            Model.Law law = Model.randomLaw(random);
            String name = place.text + " / " + law.text + ": ";
            told(name, place, law);
            runs(name, place, law, random);
            trials(name, place, law, random);
        }
        for (int k = 0; k < 300; k++) {
            Model.Place place = Model.randomPlace(random, 2);
            while (place.walkers.size() != 2) {
                place = Model.randomPlace(random, 2);
            }
            twoByAllLots(place, Model.randomLaw(random), random.nextInt(5));
        }
        for (int k = 0; k < 160; k++) {
            danceByAllLots(random, k < 6 ? 8 : 5 + random.nextInt(2));
        }
        CHECKS.finish("ModelTest");
    }

    private static void told(String name, Model.Place place, Model.Law law) {
        PavementWalk walk = Checks.told(place.text, law.text);
        CHECKS.due(name + "length", walk.about(0, 0), place.length);
        CHECKS.due(name + "walkers", walk.about(0, 2), place.walkers.size());
        CHECKS.due(name + "rules", walk.rules(0), law.rules.size());
        for (int w = 0; w < place.walkers.size(); w++) {
            Model.Walker m = place.walkers.get(w);
            int[] due = {m.x, m.y, m.way > 0 ? 1 : 0, m.pace, m.late, m.haste, m.hand,
                place.walkers.indexOf(m.friend)};
            for (int what = 0; what < due.length; what++) {
                CHECKS.due(name + "walker " + w + " " + what, walk.walker(0, w, what), due[what]);
            }
        }
    }

    private static void runs(String name, Model.Place place, Model.Law law, Random random) {
        int seed = random.nextInt();
        PavementWalk walk = Checks.told(place.text, law.text);
        Model.Run run = new Model.Run(place, law, Model.seeded(seed));
        CHECKS.due(name + "run", walk.run(0, 0, seed), true);
        for (int k = 0; k < 14; k++) {
            String at = name + "seed " + seed + " tenth " + run.tenth() + ": ";
            for (int what = 0; what < 7; what++) {
                CHECKS.due(at + "state " + what, walk.state(what), run.state(what));
            }
            int w = random.nextInt(12);
            if (w < place.walkers.size()) {
                walker(at + "walker " + w + ": ", walk, run, w, random);
            }
            int x = random.nextInt(place.length);
            int y = random.nextInt(place.width);
            CHECKS.due(at + "on " + x + " " + y, walk.on(x, y), on(run, x, y));
            int n = random.nextInt(8) == 0 ? 60 : random.nextInt(3);
            int moved = 0;
            for (int t = 0; t < n; t++) {
                moved += run.pass();
            }
            CHECKS.due(at + "go " + n, walk.go(n), moved);
        }
        for (int x = 0; x < place.length - 1; x++) {
            String ways = run.doors[x].toString();
            CHECKS.due(name + "turns " + x, walk.door(x, 0), Model.turns(ways));
            CHECKS.due(name + "longest " + x, walk.door(x, 1), Model.longest(ways));
            CHECKS.due(name + "steps " + x, walk.door(x, 2), ways.length());
        }
    }

    private static void walker(String at, PavementWalk walk, Model.Run run, int w, Random random) {
        boolean there = run.there(w);
        int[] due = {there ? run.now()[w][0] : NONE, there ? run.now()[w][1] : NONE,
            run.arrived[w], run.moves[w], run.aside[w], run.bumps[w],
            Math.min(99, run.tenth() - run.restedFrom[w])};
        for (int what = 0; what < due.length; what++) {
            CHECKS.due(at + "ran " + what, walk.ran(w, what), due[what]);
        }
        int what = random.nextInt(11);
        CHECKS.due(at + "finds " + what, walk.finds(w, what), there ? run.find(w, what) : -2);
        CHECKS.due(at + "does", walk.does(w), there ? run.deed(w) : NONE);
    }

    private static int on(Model.Run run, int x, int y) {
        if (run.place.wall[x][y]) {
            return 100;
        }
        for (int w = 0; w < run.arrived.length; w++) {
            if (run.there(w) && run.now()[w][0] == x && run.now()[w][1] == y) {
                return w;
            }
        }
        return NONE;
    }

    private static Model.Run after(Model.Place place, Model.Law law, int seed, int n) {
        return new Model.Run(place, law, Model.seeded(seed)).passAll(n);
    }

    private static void trials(String name, Model.Place place, Model.Law law, Random random) {
        int seed = random.nextInt();
        int n = 1 + random.nextInt(40);
        int all = place.walkers.size();
        PavementWalk walk = Checks.told(place.text, law.text);
        String by = name + "seed " + seed + " n " + n + ": ";
        CHECKS.due(by + "fullest", walk.fullest(0, 0, seed, n), fullest(place, law, seed, n));
        CHECKS.due(by + "pillar", walk.pillar(0, 0, seed, n), change(place, law, seed, n, true));
        CHECKS.due(by + "opened", walk.opened(0, 0, seed, n), change(place, law, seed, n, false));
        CHECKS.due(by + "flow", walk.flow(0, 0, seed, n), flow(after(place, law, seed, n), n));
        Model.Law second = Model.randomLaw(random);
        Checks.law(walk, second.text);
        boolean later = after(place, second, seed, n).arrivals() > after(place, law, seed, n).arrivals();
        CHECKS.due(by + "better " + second.text, walk.better(0, seed, n), later ? 1 : 0);
        for (int w = 0; w < all; w += 3) {
            CHECKS.due(by + "cost " + w, walk.cost(0, 0, seed, n, w), cost(place, law, seed, n, w));
            CHECKS.due(by + "slack " + w, walk.slack(0, 0, seed, n, w), slack(place, law, seed, n, w));
            int b = random.nextInt(all);
            CHECKS.due(by + "touch " + w + " " + b, walk.touch(0, 0, seed, n, w, b),
                touch(after(place, law, seed, n), n, w, b));
        }
        fits(by, walk, after(place, law, seed, 8), seed, random);
    }

    private static int fullest(Model.Place place, Model.Law law, int seed, int n) {
        for (int k = 1; k <= place.walkers.size(); k++) {
            if (after(place.with(place.walkers.subList(0, k)), law, seed, n).arrivals() < k) {
                return k;
            }
        }
        return NONE;
    }

    private static int change(Model.Place place, Model.Law law, int seed, int n, boolean wall) {
        int most = after(place, law, seed, n).arrivals();
        int best = NONE;
        for (int x = 0; x < place.length; x++) {
            for (int y = 0; y < place.width; y++) {
                boolean taken = place.wall[x][y];
                for (Model.Walker w : place.walkers) {
                    taken |= wall && w.x == x && w.y == y;
                }
                if (taken == wall) {
                    continue;
                }
                Model.Place other = place.copy();
                other.wall[x][y] = wall;
                int arrivals = after(other, law, seed, n).arrivals();
                if (arrivals > most) {
                    most = arrivals;
                    best = 100 * x + y;
                }
            }
        }
        return best;
    }

    private static int flow(Model.Run run, int n) {
        int most = 0;
        for (int from = 0; from < n; from++) {
            int all = 0;
            for (int t : run.arrived) {
                all += t >= from && t < from + 10 ? 1 : 0;
            }
            most = Math.max(most, all);
        }
        return most;
    }

    private static int cost(Model.Place place, Model.Law law, int seed, int n, int w) {
        List<Model.Walker> others = new ArrayList<>(place.walkers);
        others.remove(w);
        int with = 0;
        int[] arrived = after(place, law, seed, n).arrived;
        for (int v = 0; v < arrived.length; v++) {
            with += v == w ? 0 : arrived[v] < 0 ? n : arrived[v] + 1;
        }
        int without = 0;
        for (int t : after(place.with(others), law, seed, n).arrived) {
            without += t < 0 ? n : t + 1;
        }
        return with - without;
    }

    private static int slack(Model.Place place, Model.Law law, int seed, int n, int w) {
        int best = NONE;
        for (int late = 0; late < 4; late++) {
            Model.Place other = place.copy();
            other.walkers.get(w).late = late;
            if (after(other, law, seed, n).arrivals() == place.walkers.size()) {
                best = late;
            }
        }
        return best;
    }

    private static int touch(Model.Run run, int n, int a, int b) {
        for (int t = 0; t < n && a != b; t++) {
            int[] p = run.began.get(t)[a];
            int[] q = run.began.get(t)[b];
            if (p != null && q != null && Math.abs(p[0] - q[0]) + Math.abs(p[1] - q[1]) == 1) {
                return t;
            }
        }
        return NONE;
    }

    /** Films the first FRAMES, each as it is, or not quite. */
    private static void fits(String by, PavementWalk walk, Model.Run run, int seed, Random random) {
        int due = 0;
        for (int f = 0; f < 8; f++) {
            int[][] there = java.util.Arrays.stream(run.began.get(f)).filter(p -> p != null)
                .toArray(int[][]::new);
            int how = random.nextInt(4);
            int hats = Math.min(6, there.length - (how == 0 ? 1 : 0));
            for (int h = 0; h < hats; h++) {
                walk.hat(f, there[h][0] + (how == 1 && h == 0 ? 16 : 0), there[h][1]);
            }
            due += how > 1 && there.length > 0 && hats == there.length ? 1 : 0;
        }
        CHECKS.due(by + "fits", walk.fits(0, 0, seed), due);
    }

    /** Two face to face with many lots, which meet in the same SQUARES by many ways. */
    private static void danceByAllLots(Random random, int n) {
        Model.Place place = new Model.Place();
        boolean atTheEnd = random.nextInt(3) == 0;
        place.length = atTheEnd ? 16 : 4 + random.nextInt(4);
        place.width = 2 + random.nextInt(3);
        place.wall = new boolean[place.length][place.width];
        StringBuilder text = new StringBuilder("size " + place.length + " " + place.width + ";");
        for (int w = 0; w < 2; w++) {
            Model.Walker walker = new Model.Walker();
            walker.x = w == 0 ? random.nextInt(2) + (atTheEnd ? 11 : 0) : place.length - 1 - random.nextInt(2);
            walker.y = random.nextInt(2);
            walker.way = w == 0 ? 1 : -1;
            // What was three TENTHS ago matters by LATE 3 alone.
            walker.late = random.nextBoolean() ? 3 : random.nextInt(4) * random.nextInt(2);
            walker.pace = 1 + random.nextInt(4) / 3;
            place.walkers.add(walker);
            text.append("walker " + walker.x + " " + walker.y + (w == 0 ? " east;" : " west;"));
            text.append("late " + w + " " + walker.late + ";pace " + w + " " + walker.pace + ";");
        }
        place.text = text.toString();
        String[] laws = {"lot", "if facing:lot;go", "if waited=2:go;if waited=0:lot;hand", "if near<3:lot;go",
            "if facing and waited<3:lot;go", "if waited>0:go;lot", "if near<2:go;if waited<2:hand;wait",
            "if right=0:lot;if crowd>0:hand;go", "if near=1:lot;if near=2:hand;go", "if ahead=1:lot;if ahead<3:hand;go",
            "if crowd>0:lot;if near=3:hand;if near=4:left;go", "if waited=4:lot;if waited<3:hand;go"};
        twoByAllLots(place, Model.law(laws[random.nextInt(laws.length)] + ";"), n);
    }

    private static void twoByAllLots(Model.Place place, Model.Law law, int n) {
        long[] due = new long[10];
        for (int script = 0; script < 1 << 2 * n; script++) {
            int[] rest = {script};
            Model.Run run = new Model.Run(place, law, () -> {
                boolean right = (rest[0] & 1) == 0;
                rest[0] >>= 1;
                return right;
            }).passAll(n);
            due[0] += run.arrivals() == 2 ? 1 : 0;
            due[1 + run.dances]++;
        }
        PavementWalk walk = Checks.told(place.text, law.text);
        String by = place.text + " / " + law.text + " n " + n + ": ";
        CHECKS.due(by + "both", walk.two(0, 0, n, 0), due[0]);
        for (int k = 0; k < 9; k++) {
            CHECKS.due(by + k + " dances", walk.two(0, 0, n, 10 + k), due[1 + k]);
        }
    }
}
