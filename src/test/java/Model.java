import java.util.ArrayList;
import java.util.List;
import java.util.Random;

/**
 * A slow model of PASSAGES, LAWS and RUNS, written from the document apart from the program: it
 * keeps every TENTH, and looks square by square. ModelTest compares the two.
 */
final class Model {
    static final String[] FINDS = {"ahead", "soon", "near", "right", "left", "waited", "haste",
        "crowd", "blocked", "facing", "parted"};
    static final String[] DEEDS = {"go", "right", "left", "hand", "lot", "wait"};

    static final class Walker {
        int x;
        int y;
        int way;
        int pace = 1;
        int late;
        int haste;
        int hand;
        Walker friend;

        Walker copy() {
            Walker w = new Walker();
            w.x = x;
            w.y = y;
            w.way = way;
            w.pace = pace;
            w.late = late;
            w.haste = haste;
            w.hand = hand;
            return w;
        }
    }

    static final class Place {
        int length;
        int width;
        boolean[][] wall;
        List<Walker> walkers = new ArrayList<>();
        String text;

        /** Another one with the same, or some of, the WALKERS, whose friends are among them. */
        Place with(List<Walker> kept) {
            Place p = new Place();
            p.length = length;
            p.width = width;
            p.wall = new boolean[length][];
            for (int x = 0; x < length; x++) {
                p.wall[x] = wall[x].clone();
            }
            for (Walker w : kept) {
                p.walkers.add(w.copy());
            }
            for (int i = 0; i < kept.size(); i++) {
                int f = kept.indexOf(kept.get(i).friend);
                p.walkers.get(i).friend = f < 0 ? null : p.walkers.get(f);
            }
            return p;
        }

        Place copy() {
            return with(walkers);
        }

        boolean inside(int x, int y) {
            return x >= 0 && x < length && y >= 0 && y < width;
        }
    }

    static final class Test {
        int what;
        char sign = '=';
        int number = 1;
        boolean not;
    }

    static final class Rule {
        List<Test> tests = new ArrayList<>();
        int deed;
    }

    static final class Law {
        List<Rule> rules = new ArrayList<>();
        String text;
    }

    /** Where lots come from: a SEED's row, or a script of them. */
    interface Lots {
        boolean right();
    }

    static Lots seeded(int seed) {
        int[] x = {seed};
        return () -> {
            x[0] = x[0] * 1103515245 + 12345;
            return (x[0] >>> 16) % 2 == 0;
        };
    }

    static final class Run {
        final Place place;
        final Law law;
        final Lots lots;
        int drawn;
        int dances;
        /** For each TENTH that began, where all were: null who has ARRIVED. */
        final List<int[][]> began = new ArrayList<>();
        final List<Integer> movedIn = new ArrayList<>();
        final int[] arrived;
        final int[] moves;
        final int[] aside;
        final int[] bumps;
        final int[] restedFrom;
        /** Steps of each DOOR, as signs in a row. */
        final StringBuilder[] doors;

        Run(Place place, Law law, Lots lots) {
            this.place = place;
            this.law = law;
            this.lots = lots;
            int n = place.walkers.size();
            arrived = new int[n];
            moves = new int[n];
            aside = new int[n];
            bumps = new int[n];
            restedFrom = new int[n];
            java.util.Arrays.fill(arrived, -1);
            doors = new StringBuilder[place.length];
            for (int x = 0; x < place.length; x++) {
                doors[x] = new StringBuilder();
            }
            int[][] first = new int[n][];
            for (int w = 0; w < n; w++) {
                first[w] = new int[] {place.walkers.get(w).x, place.walkers.get(w).y};
            }
            began.add(first);
        }

        int tenth() {
            return began.size() - 1;
        }

        int[][] now() {
            return began.get(tenth());
        }

        boolean there(int w) {
            return now()[w] != null;
        }

        /** Who is on a SQUARE as w sees it, but himself: -1 nobody, -2 a WALL. */
        private int seenOn(int w, int x, int y) {
            if (place.inside(x, y) && place.wall[x][y]) {
                return -2;
            }
            int[][] then = began.get(Math.max(0, tenth() - place.walkers.get(w).late));
            for (int v = 0; v < then.length; v++) {
                if (v != w && then[v] != null && then[v][0] == x && then[v][1] == y) {
                    return v;
                }
            }
            return -1;
        }

        private int[] straightOn(int w) {
            int x = now()[w][0];
            int free = 0;
            for (x += place.walkers.get(w).way; place.inside(x, 0); x += place.walkers.get(w).way) {
                int who = seenOn(w, x, now()[w][1]);
                if (who != -1) {
                    return new int[] {Math.min(free, 9), who};
                }
                free++;
            }
            return new int[] {9, -1};
        }

        private int beside(int w, int dy) {
            int y = now()[w][1] + dy;
            int free = 0;
            while (place.inside(0, y) && seenOn(w, now()[w][0], y) == -1) {
                free++;
                y += dy;
            }
            return free;
        }

        int find(int w, int what) {
            Walker me = place.walkers.get(w);
            int[] ahead = straightOn(w);
            int[][] then = began.get(Math.max(0, tenth() - me.late));
            List<Integer> far = new ArrayList<>();
            int friendFar = 0;
            for (int v = 0; v < then.length; v++) {
                if (v != w && then[v] != null) {
                    int d = Math.abs(then[v][0] - now()[w][0]) + Math.abs(then[v][1] - now()[w][1]);
                    far.add(d);
                    if (place.walkers.get(v) == me.friend) {
                        friendFar = d;
                    }
                }
            }
            switch (what) {
                case 0: return ahead[0];
                case 1:
                    if (ahead[1] < 0) {
                        return 99;
                    }
                    Walker he = place.walkers.get(ahead[1]);
                    int by = he.way != me.way ? he.pace + me.pace : he.pace - me.pace;
                    return by <= 0 ? 99 : Math.min(99, ahead[0] * he.pace * me.pace / by);
                case 2: return far.stream().mapToInt(d -> d).min().orElse(99);
                case 3: return beside(w, me.way);
                case 4: return beside(w, -me.way);
                case 5: return Math.min(99, tenth() - restedFrom[w]);
                case 6: return me.haste;
                case 7: return (int) far.stream().filter(d -> d <= 2).count();
                case 8: return ahead[0] == 0 ? 1 : 0;
                case 9: return ahead[1] >= 0 && place.walkers.get(ahead[1]).way != me.way ? 1 : 0;
                default: return friendFar > 2 ? 1 : 0;
            }
        }

        int deed(int w) {
            if (tenth() % place.walkers.get(w).pace != 0) {
                return 5;
            }
            for (Rule rule : law.rules) {
                boolean all = true;
                for (Test t : rule.tests) {
                    int f = find(w, t.what);
                    boolean so = t.sign == '<' ? f < t.number
                        : t.sign == '>' ? f > t.number : f == t.number;
                    all &= so != t.not;
                }
                if (all) {
                    return rule.deed;
                }
            }
            return 5;
        }

        int pass() {
            int n = place.walkers.size();
            int[] deeds = new int[n];
            for (int w = 0; w < n; w++) {
                deeds[w] = there(w) ? deed(w) : 5;
            }
            for (int w = 0; w < n; w++) {
                int hand = place.walkers.get(w).hand;
                if (deeds[w] == 3 && hand != 0) {
                    deeds[w] = hand;
                } else if (deeds[w] == 3 || deeds[w] == 4) {
                    drawn++;
                    deeds[w] = lots.right() ? 1 : 2;
                }
            }
            int[][] next = new int[n][];
            for (int w = 0; w < n; w++) {
                next[w] = there(w) ? now()[w].clone() : null;
            }
            List<Integer> order = new ArrayList<>();
            for (int w = 0; w < n; w++) {
                order.add(w);
            }
            order.sort((a, b) -> place.walkers.get(b).haste - place.walkers.get(a).haste);
            int moved = 0;
            for (int w : order) {
                moved += next[w] != null && deeds[w] != 5 && step(w, deeds[w], next) ? 1 : 0;
            }
            countDances(next);
            began.add(next);
            movedIn.add(moved);
            return moved;
        }

        private boolean step(int w, int deed, int[][] next) {
            int way = place.walkers.get(w).way;
            int x = next[w][0] + (deed == 0 ? way : 0);
            int y = next[w][1] + (deed == 0 ? 0 : deed == 1 ? way : -way);
            if (x < 0 || x >= place.length) {
                next[w] = null;
                arrived[w] = tenth();
            } else {
                boolean free = place.inside(x, y) && !place.wall[x][y];
                for (int[] other : next) {
                    free &= other == null || other[0] != x || other[1] != y;
                }
                if (!free) {
                    bumps[w]++;
                    return false;
                }
                if (deed == 0) {
                    doors[Math.min(x, next[w][0])].append(way > 0 ? 'E' : 'W');
                } else {
                    aside[w]++;
                }
                next[w] = new int[] {x, y};
            }
            moves[w]++;
            restedFrom[w] = tenth() + 1;
            return true;
        }

        private void countDances(int[][] next) {
            for (int a = 0; a < next.length; a++) {
                for (int b = 0; b < next.length; b++) {
                    if (place.walkers.get(a).way != 1 || place.walkers.get(b).way != -1
                        || next[a] == null || next[b] == null) {
                        continue;
                    }
                    int[] wasA = now()[a];
                    int[] wasB = now()[b];
                    if (Math.abs(wasA[0] - wasB[0]) <= 2 && wasA[1] == wasB[1]
                        && next[a][1] == next[b][1] && next[a][1] != wasA[1]) {
                        dances++;
                    }
                }
            }
        }

        int arrivals() {
            int all = 0;
            for (int t : arrived) {
                all += t >= 0 ? 1 : 0;
            }
            return all;
        }

        Run passAll(int n) {
            for (int t = 0; t < n; t++) {
                pass();
            }
            return this;
        }

        /** The ways in a row: E, W, M for both, - for none. */
        String rows() {
            StringBuilder rows = new StringBuilder();
            for (int y = 0; y < place.width; y++) {
                boolean east = false;
                boolean west = false;
                for (int w = 0; w < arrived.length; w++) {
                    if (there(w) && now()[w][1] == y) {
                        east |= place.walkers.get(w).way > 0;
                        west |= place.walkers.get(w).way < 0;
                    }
                }
                rows.append(east && west ? 'M' : east ? 'E' : west ? 'W' : '-');
            }
            return rows.toString();
        }

        int state(int what) {
            switch (what) {
                case 0: return tenth();
                case 1: return arrivals();
                case 2:
                    int still = 0;
                    for (int t = tenth() - 1; t >= 0 && movedIn.get(t) == 0; t--) {
                        still++;
                    }
                    return still >= 10 ? 1 : 0;
                case 3: return dances;
                case 4: return turns(rows().replaceAll("[M-]", ""));
                case 5: return rows().replaceAll("[^M]", "").length();
                default: return drawn;
            }
        }
    }

    static int turns(String ways) {
        int turns = ways.isEmpty() ? 0 : 1;
        for (int i = 1; i < ways.length(); i++) {
            turns += ways.charAt(i) != ways.charAt(i - 1) ? 1 : 0;
        }
        return turns;
    }

    static int longest(String ways) {
        int longest = 0;
        for (String part : ways.split("(?<=E)(?=W)|(?<=W)(?=E)")) {
            longest = Math.max(longest, part.length());
        }
        return longest;
    }

    // Random ones

    static Place randomPlace(Random random, int mostWalkers) {
        Place p = new Place();
        p.length = 2 + random.nextInt(random.nextBoolean() ? 5 : 15);
        p.width = 1 + random.nextInt(6);
        p.wall = new boolean[p.length][p.width];
        int[][] kind = new int[p.length][p.width];
        StringBuilder text = new StringBuilder("size " + p.length + " " + p.width + ";");
        int lines = random.nextInt(3 + mostWalkers * 2);
        for (int k = 0; k < lines && text.length() < 460; k++) {
            int x = random.nextInt(p.length);
            int y = random.nextInt(p.width);
            int n = p.walkers.size();
            int a = n == 0 ? 0 : random.nextInt(n);
            int what = random.nextInt(10);
            if (what < 5 && kind[x][y] == 0 && n < mostWalkers) {
                Walker w = new Walker();
                w.x = x;
                w.y = y;
                w.way = random.nextBoolean() ? 1 : -1;
                p.walkers.add(w);
                kind[x][y] = 1;
                text.append("walker " + x + " " + y + (w.way > 0 ? " east;" : "west;\n"));
            } else if (what == 5 && kind[x][y] == 0) {
                p.wall[x][y] = true;
                kind[x][y] = 2;
                text.append(" wall " + x + " " + y + ";");
            } else if (n > 0) {
                p.walkers.get(a).friend = tellTrait(random, p, a, text);
            }
        }
        p.text = text.toString();
        return p;
    }

    /** Tells something of a WALKER: his friend then. */
    private static Walker tellTrait(Random random, Place p, int a, StringBuilder text) {
        Walker w = p.walkers.get(a);
        switch (random.nextInt(5)) {
            case 0:
                w.pace = 1 + random.nextInt(4);
                text.append("pace " + a + " " + w.pace + ";");
                return w.friend;
            case 1:
                w.late = random.nextInt(4);
                text.append("late " + a + " " + w.late + ";");
                return w.friend;
            case 2:
                w.haste = random.nextInt(10);
                text.append("haste " + a + " " + w.haste + ";");
                return w.friend;
            case 3:
                w.hand = 1 + random.nextInt(2);
                text.append("hand " + a + (w.hand == 1 ? " right;" : " left;"));
                return w.friend;
            default:
                int b = random.nextInt(p.walkers.size());
                if (a == b) {
                    return w.friend;
                }
                Walker v = p.walkers.get(b);
                for (Walker u : p.walkers) {
                    u.friend = u.friend == v || u.friend == w ? null : u.friend;
                }
                v.friend = w;
                text.append("friends " + a + " " + b + ";");
                return v;
        }
    }

    /** A LAW without 'not' from its text. */
    static Law law(String text) {
        Law law = new Law();
        law.text = text;
        for (String told : text.split(";")) {
            Rule rule = new Rule();
            String[] parts = told.split(":");
            for (String one : parts.length > 1 ? parts[0].substring(3).split(" and ") : new String[0]) {
                Test test = new Test();
                String[] sides = one.split("[<>=]");
                test.what = List.of(FINDS).indexOf(sides[0]);
                if (sides.length > 1) {
                    test.sign = one.charAt(sides[0].length());
                    test.number = Integer.parseInt(sides[1]);
                }
                rule.tests.add(test);
            }
            rule.deed = List.of(DEEDS).indexOf(parts[parts.length - 1]);
            law.rules.add(rule);
        }
        return law;
    }

    static Law randomLaw(Random random) {
        Law law = new Law();
        StringBuilder text = new StringBuilder();
        int rules = random.nextInt(6);
        for (int k = 0; k < rules; k++) {
            Rule rule = new Rule();
            int tests = random.nextInt(4);
            for (int t = 0; t < tests; t++) {
                Test test = new Test();
                test.what = random.nextInt(11);
                test.not = random.nextInt(3) == 0;
                text.append(t == 0 ? "if " : " and ").append(test.not ? "not " : "");
                text.append(FINDS[test.what]);
                if (test.what < 8) {
                    test.sign = "<>=".charAt(random.nextInt(3));
                    test.number = random.nextInt(test.what == 1 ? 30 : 6);
                    text.append(" " + test.sign + test.number);
                }
                rule.tests.add(test);
            }
            text.append(tests > 0 ? ":" : "");
            rule.deed = random.nextInt(3) == 0 ? 0 : random.nextInt(6);
            text.append(DEEDS[rule.deed] + ";");
            law.rules.add(rule);
        }
        if (random.nextInt(4) > 0) {
            Rule rule = new Rule();
            text.append("go;");
            law.rules.add(rule);
        }
        law.text = text.toString();
        return law;
    }
}
