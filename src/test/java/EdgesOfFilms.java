/** Promises 28 to 33 and Term 4: films and habits. */
final class EdgesOfFilms {
    private static final int NONE = PavementWalk.NONE;
    private static final int LEAST = Integer.MIN_VALUE;
    private static final int GREATEST = Integer.MAX_VALUE;
    private static final int[] NO_PRICES = {-1, -2, 100, 101, LEAST, GREATEST};

    private final Edges edges;

    EdgesOfFilms(Edges edges) {
        this.edges = edges;
    }

    void test() {
        hat();
        hatRefused();
        dark();
        match();
        matchRefused();
        leastRow();
        worth();
        worthRefused();
        track();
        trackRefused();
        habit();
        habitParts();
        habitRefused();
    }

    private void hat() {
        edges.promise(28, "A HAT in a FRAME of the FILM: its number.");
        PavementWalk walk = new PavementWalk();
        for (int f = 0; f < 8; f++) {
            for (int h = 0; h < 6; h++) {
                edges.due("HAT of FRAME " + f, walk.hat(f, h % 2 * 99, h / 2 % 2 * 99), h);
                edges.due("its HATS", walk.count(2 + f), h + 1);
            }
        }
        PavementWalk one = new PavementWalk();
        edges.due("the first SQUARE", one.hat(0, 0, 0), 0);
        edges.due("the last one", one.hat(1, 99, 99), 0);
        edges.due("they stand there", one.worth(0, 99), 198);
        edges.due("all of the way costs less", one.hat(0, 99, 0), 1);
        edges.due("as it stands", one.worth(0, 99), 99 + 99);
        edges.due("two on one SQUARE", one.hat(0, 0, 0), 2);
    }

    private void hatRefused() {
        edges.promise(28, "NONE: there are 6 in it, or other numbers.");
        PavementWalk walk = new PavementWalk();
        int[] wild = {-1, -2, 100, 101, LEAST, GREATEST};
        edges.dueAll("FRAME", f -> walk.hat(f, 0, 0), NONE, 8, 9, -1, -2, LEAST, GREATEST);
        edges.dueAll("x", x -> walk.hat(0, x, 0), NONE, wild);
        edges.dueAll("y", y -> walk.hat(7, 0, y), NONE, wild);
        edges.dueRow("count", walk::count, 0, 0, 0, 0, 0, 0, 0, 0, 0, 0);
        for (int h = 0; h < 6; h++) {
            walk.hat(3, h, 0);
        }
        edges.due("a 7th", walk.hat(3, 9, 9), NONE);
        edges.due("still a 7th", walk.hat(3, 0, 0), NONE);
        edges.due("another FRAME", walk.hat(4, 0, 0), 0);
        edges.dueRow("count", walk::count, 0, 0, 0, 0, 0, 6, 1, 0, 0, 0);
        edges.due("no 7th one is matched", walk.worth(3, 99), 5 * 99);
    }

    private void dark() {
        edges.promise(29, "The FILM has no HATS any more: how many there were.");
        PavementWalk walk = new PavementWalk();
        edges.due("none", walk.dark(), 0);
        for (int k = 0; k < 48; k++) {
            walk.hat(k % 8, k, k);
        }
        edges.due("the most", walk.dark(), 48);
        edges.dueRow("count", walk::count, 0, 0, 0, 0, 0, 0, 0, 0, 0, 0);
        edges.due("none any more", walk.dark(), 0);
        edges.due("no MATCH", walk.match(0, 9, 0), NONE);
        edges.due("no cost", walk.worth(0, 9), 0);
        edges.due("from 0 on", walk.hat(0, 1, 1), 0);
        edges.due("one", walk.dark(), 1);
    }

    private void match() {
        edges.promise(30, "MATCH of FRAME f, 0 .. 6: the HAT of the next FRAME for a HAT.");
        PavementWalk walk = new PavementWalk();
        for (int f = 0; f < 8; f++) {
            for (int h = 0; h < 6; h++) {
                walk.hat(f, 10 * (h + f) % 60, 0);
            }
        }
        for (int f = 0; f < 7; f++) {
            int frame = f;
            // Each FRAME has the same SQUARES, told one later.
            edges.dueRow("FRAME " + f, h -> walk.match(frame, 99, h), 5, 0, 1, 2, 3, 4);
            edges.due("cost of FRAME " + f, walk.worth(f, 99), 0);
        }
        edges.term("HATS of f and f + 1, each of one with one of the other at most, |dx| + |dy| a couple, g for each "
            + "HAT of both that has none, together the least");
        PavementWalk two = new PavementWalk();
        two.hat(0, 10, 10);
        two.hat(1, 15, 15);
        // 10 a couple, or twice g.
        edges.dueAll("g too little", g -> two.match(0, g, 0), NONE, 0, 1, 4);
        edges.dueAll("g enough", g -> two.match(0, g, 0), 0, 5, 6, 99);
        PavementWalk three = new PavementWalk();
        three.hat(2, 0, 0);
        three.hat(2, 50, 0);
        three.hat(3, 40, 0);
        edges.dueRow("the nearest", h -> three.match(2, 99, h), NONE, 0);
        PavementWalk chain = new PavementWalk();
        chain.hat(2, 0, 0);
        chain.hat(2, 50, 0);
        chain.hat(3, 40, 0);
        chain.hat(3, 99, 0);
        edges.dueRow("together the least", h -> chain.match(2, 99, h), 0, 1);
        edges.dueRow("by a little g the nearest", h -> chain.match(2, 20, h), NONE, 0);
    }

    private void matchRefused() {
        edges.promise(30, "NONE: none, or there is none such (of any).");
        PavementWalk walk = new PavementWalk();
        walk.hat(0, 0, 0);
        walk.hat(0, 99, 99);
        walk.hat(1, 0, 0);
        walk.hat(6, 0, 0);
        walk.hat(7, 0, 0);
        edges.due("the last FRAME that has a next one", walk.match(6, 9, 0), 0);
        edges.dueAll("FRAME", f -> walk.match(f, 9, 0), NONE, 7, 8, -1, LEAST, GREATEST);
        edges.dueAll("g", g -> walk.match(0, g, 0), NONE, NO_PRICES);
        edges.dueAll("HAT", h -> walk.match(0, 9, h), NONE, 2, 5, 6, -1, LEAST, GREATEST);
        edges.due("a HAT has none", walk.match(0, 9, 1), NONE);
        edges.due("none in the next FRAME", walk.match(1, 9, 0), NONE);
        edges.due("none in its own", walk.match(5, 9, 0), NONE);
        edges.due("g 0, on the same SQUARE", walk.match(0, 0, 0), 0);
    }

    private void leastRow() {
        edges.term("of several the least row (of HATS of f from 0 on the HAT of f + 1; none is the greatest)");
        PavementWalk same = new PavementWalk();
        for (int h = 0; h < 6; h++) {
            same.hat(0, 7, 7);
            same.hat(1, 7, 7);
        }
        edges.dueRow("all on one SQUARE", h -> same.match(0, 9, h), 0, 1, 2, 3, 4, 5);
        edges.dueRow("by g 0", h -> same.match(0, 0, h), 0, 1, 2, 3, 4, 5);
        PavementWalk fewer = new PavementWalk();
        fewer.hat(0, 7, 7);
        fewer.hat(0, 7, 7);
        fewer.hat(0, 7, 7);
        fewer.hat(1, 7, 7);
        edges.dueRow("the first one has it", h -> fewer.match(0, 9, h), 0, NONE, NONE);
        PavementWalk tie = new PavementWalk();
        tie.hat(0, 0, 0);
        tie.hat(1, 6, 0);
        edges.due("as dear as none", tie.match(0, 3, 0), 0);
        edges.due("dearer than none", tie.match(0, 2, 0), NONE);
        tie.hat(0, 12, 0);
        edges.dueRow("either one", h -> tie.match(0, 5, h), 0, NONE);
        tie.hat(1, 6, 0);
        edges.dueRow("both", h -> tie.match(0, 3, h), 0, 1);
        PavementWalk row = new PavementWalk();
        row.hat(0, 0, 0);
        row.hat(0, 2, 0);
        row.hat(1, 2, 0);
        row.hat(1, 0, 0);
        row.hat(1, 1, 1);
        // 0 with 1 and 1 with 0 cost nothing but the third one's g.
        edges.dueRow("the least cost goes ahead of the row", h -> row.match(0, 9, h), 1, 0);
        PavementWalk line = new PavementWalk();
        line.hat(0, 0, 0);
        line.hat(0, 0, 0);
        line.hat(1, 5, 0);
        line.hat(1, 9, 0);
        edges.dueRow("either way 14", h -> line.match(0, 50, h), 0, 1);
    }

    private void worth() {
        edges.promise(31, "What that MATCH costs.");
        PavementWalk walk = new PavementWalk();
        edges.dueRow("no HATS", f -> walk.worth(f, 99), 0, 0, 0, 0, 0, 0, 0, NONE);
        for (int h = 0; h < 6; h++) {
            walk.hat(0, 0, 0);
            walk.hat(1, 99, 99);
            walk.hat(3, 0, 0);
        }
        edges.due("the greatest: each couple is twice g", walk.worth(0, 99), 6 * 198);
        edges.due("g 98: none is a couple", walk.worth(0, 98), 12 * 98);
        edges.due("g 0", walk.worth(0, 0), 0);
        edges.due("none in the next", walk.worth(1, 99), 6 * 99);
        edges.due("all of the next", walk.worth(2, 99), 6 * 99);
        edges.due("the last one", walk.worth(6, 99), 0);
    }

    private void worthRefused() {
        edges.promise(31, "NONE: there is none such (of any).");
        PavementWalk walk = new PavementWalk();
        walk.hat(7, 0, 0);
        edges.dueAll("FRAME", f -> walk.worth(f, 9), NONE, 7, 8, -1, LEAST, GREATEST);
        edges.dueAll("g", g -> walk.worth(6, g), NONE, NO_PRICES);
        edges.due("g 99", walk.worth(6, 99), 99);
        edges.due("g 0", walk.worth(6, 0), 0);
    }

    private void track() {
        edges.promise(32, "TRACK of a HAT: the HAT in a FRAME not ahead of its own.");
        PavementWalk walk = new PavementWalk();
        for (int f = 0; f < 8; f++) {
            for (int h = 0; h < 6; h++) {
                walk.hat(f, 10 * (h + f) % 60, 0);
            }
        }
        for (int from = 0; from < 8; from++) {
            for (int to = from; to < 8; to++) {
                edges.due("from " + from + " to " + to, walk.track(from, 2, 99, to), (2 + 5 * (to - from)) % 6);
            }
        }
        edges.due("the last HAT", walk.track(0, 5, 99, 7), (5 + 35) % 6);
        edges.due("g 0", walk.track(0, 5, 0, 7), 4);
        edges.term("TRACK of a HAT: from it on by MATCH as long as it has one.");
        PavementWalk far = new PavementWalk();
        far.hat(0, 0, 0);
        far.hat(1, 0, 5);
        far.hat(2, 0, 25);
        far.hat(3, 0, 25);
        edges.dueRow("g 9", to -> far.track(0, 0, 9, to), 0, 0, NONE, NONE, NONE, NONE, NONE, NONE);
        edges.dueRow("g 10", to -> far.track(0, 0, 10, to), 0, 0, 0, 0, NONE, NONE, NONE, NONE);
        edges.dueRow("g 2", to -> far.track(0, 0, 2, to), 0, NONE, NONE);
    }

    private void trackRefused() {
        edges.promise(32, "NONE: it does not go so far, or there is none such (of any).");
        PavementWalk walk = new PavementWalk();
        for (int f = 0; f < 8; f++) {
            if (f != 4) {
                walk.hat(f, 0, 0);
            }
        }
        edges.dueRow("to", to -> walk.track(1, 0, 9, to), NONE, 0, 0, 0, NONE, NONE, NONE, NONE, NONE);
        edges.dueAll("to", to -> walk.track(7, 0, 9, to), NONE, 0, 6, 8, 9, -1, LEAST, GREATEST);
        edges.due("to its own, the last one", walk.track(7, 0, 9, 7), 0);
        edges.dueAll("from", f -> walk.track(f, 0, 9, 7), NONE, 0, 3, 4, 8, 9, -1, LEAST, GREATEST);
        edges.dueAll("from, to its own", f -> walk.track(f, 0, 9, f), NONE, 4, 8, 9, -1, LEAST, GREATEST);
        edges.dueAll("HAT", h -> walk.track(5, h, 9, 5), NONE, 1, 5, 6, -1, LEAST, GREATEST);
        edges.dueAll("g", g -> walk.track(5, 0, g, 7), NONE, NO_PRICES);
        edges.dueAll("g, to its own", g -> walk.track(5, 0, g, 5), NONE, NO_PRICES);
    }

    private void habit() {
        edges.promise(33, "HABIT, PARTS in which there are to, 0 .. n, who go right, behind m MEETINGS.");
        PavementWalk walk = new PavementWalk();
        for (int n = 2; n <= 8; n++) {
            int couples = n * (n - 1) / 2;
            for (int k = 0; k <= n; k++) {
                int all = n;
                int right = k;
                int mixed = k * (n - k);
                for (int to = 0; to <= n; to++) {
                    String by = n + ", " + k + " to " + to;
                    edges.due("no MEETING of " + by, walk.habit(n, k, 5, 3, 0, to), to == k ? 1 : 0);
                    edges.due("one of " + by, walk.habit(n, k, 5, 3, 1, to),
                        to == k + 1 ? 5 * mixed : to == k - 1 ? 3 * mixed : to == k ? 12 * couples - 8 * mixed : 0);
                }
                long sum = 0;
                long parts = 1;
                for (int to = 0; to <= n; to++) {
                    sum += walk.habit(all, right, 5, 7, 6, to);
                }
                for (int m = 0; m < 6; m++) {
                    parts *= 12L * couples;
                }
                edges.due("all PARTS of " + n + ", " + k, sum, parts);
            }
        }
    }

    private void habitParts() {
        edges.term("PARTS: 12 * couples, m times multiplied, are one.");
        PavementWalk walk = new PavementWalk();
        long parts = 336L * 336 * 336 * 336 * 336 * 336;
        edges.due("the most", walk.habit(8, 0, 12, 0, 6, 0), parts);
        edges.due("the most, all right", walk.habit(8, 8, 0, 12, 6, 8), parts);
        edges.due("p and q 0", walk.habit(8, 4, 0, 0, 6, 4), parts);
        edges.due("the least", walk.habit(2, 0, 0, 0, 0, 0), 1);
        edges.due("farther than m MEETINGS", walk.habit(8, 1, 12, 0, 6, 8), 0);
        edges.due("as far as m MEETINGS", walk.habit(8, 2, 12, 0, 6, 8),
            144L * 180 * 192 * 180 * 144 * 84);
        edges.due("there and back", walk.habit(2, 1, 6, 6, 6, 2), 12L * 12 * 12 * 12 * 12 * 6);
        edges.term("if one goes right, one left, in p of 12 the left one goes right from then on, else in q of 12 (p "
            + "and q 12 together at most) the right one goes left.");
        edges.due("p 12", walk.habit(2, 1, 12, 0, 1, 2), 12);
        edges.due("q 12", walk.habit(2, 1, 0, 12, 1, 0), 12);
        edges.due("neither", walk.habit(2, 1, 0, 0, 1, 1), 12);
        edges.due("two who go right", walk.habit(2, 2, 0, 12, 1, 2), 12);
        edges.due("two who go left", walk.habit(2, 0, 12, 0, 1, 0), 12);
    }

    private void habitRefused() {
        edges.promise(33, "NONE: other numbers.");
        PavementWalk walk = new PavementWalk();
        edges.due("these can be", walk.habit(4, 4, 6, 6, 6, 4), 72L * 72 * 72 * 72 * 72 * 72);
        int[] wild = {-1, -2, LEAST, GREATEST};
        edges.dueAll("n", n -> (int) walk.habit(n, 0, 1, 1, 1, 0), NONE, 1, 0, 9, 10);
        edges.dueAll("n", n -> (int) walk.habit(n, 0, 1, 1, 1, 0), NONE, wild);
        edges.dueAll("k", k -> (int) walk.habit(4, k, 1, 1, 1, 4), NONE, 5, 6, 8);
        edges.dueAll("k", k -> (int) walk.habit(4, k, 1, 1, 1, 4), NONE, wild);
        edges.dueAll("p", p -> (int) walk.habit(4, 2, p, 0, 1, 2), NONE, 13, 14);
        edges.dueAll("p", p -> (int) walk.habit(4, 2, p, 0, 1, 2), NONE, wild);
        edges.dueAll("q", q -> (int) walk.habit(4, 2, 0, q, 1, 2), NONE, 13, 14);
        edges.dueAll("q", q -> (int) walk.habit(4, 2, 0, q, 1, 2), NONE, wild);
        edges.dueAll("p and q", p -> (int) walk.habit(4, 2, p, 13 - p, 1, 2), NONE, 0, 1, 6, 12, 13);
        edges.due("p and q that wrap around", walk.habit(4, 2, GREATEST, GREATEST, 1, 2), NONE);
        edges.due("p and q that meet below 0", walk.habit(4, 2, 13, -1, 1, 2), NONE);
        edges.due("p and q that meet below 0", walk.habit(4, 2, -1, 13, 1, 2), NONE);
        edges.dueAll("m", m -> (int) walk.habit(4, 2, 1, 1, m, 2), NONE, 7, 8);
        edges.dueAll("m", m -> (int) walk.habit(4, 2, 1, 1, m, 2), NONE, wild);
        edges.dueAll("to", to -> (int) walk.habit(4, 2, 1, 1, 1, to), NONE, 5, 6, 8);
        edges.dueAll("to", to -> (int) walk.habit(4, 2, 1, 1, 1, to), NONE, wild);
    }
}
