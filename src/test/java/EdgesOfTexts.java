/** Promises 1 to 9 and Term 1 but for FAULTS: the tape, and what is told by it. */
final class EdgesOfTexts {
    private static final int NONE = PavementWalk.NONE;
    private static final int NO_SUCH = -2;
    private static final int LEAST = Integer.MIN_VALUE;
    private static final int GREATEST = Integer.MAX_VALUE;
    private static final int BLANKS = 0x20202020;
    private static final int MARKS = 0x21212121;

    private final Edges edges;

    EdgesOfTexts(Edges edges) {
        this.edges = edges;
    }

    void test() {
        newObject();
        feed();
        fullTape();
        end();
        endRefused();
        passagesGetNumbers();
        passageWithFault();
        passageRefused();
        runOfPassageGoesOn();
        lawsAlike();
        fault();
        about();
        walker();
        rules();
        sizes();
        walkersAtMost();
        traits();
        tokens();
        laterOnes();
        threeOfEach();
    }

    // Promises 1 to 3

    private void newObject() {
        edges.promise(1, "No PASSAGES, LAWS, RUN, HATS; no images.");
        PavementWalk walk = new PavementWalk();
        edges.dueRow("count", walk::count, 0, 0, 0, 0, 0, 0, 0, 0, 0, 0);
        edges.due("no tape", walk.end(1), NONE);
        edges.dueRow("fault", walk::fault, 0, NONE);
        edges.due("about", walk.about(0, 0), NONE);
        edges.due("walker", walk.walker(0, 0, 0), NO_SUCH);
        edges.due("rules", walk.rules(0), NONE);
        edges.due("run", walk.run(0, 0, 0), false);
        edges.due("go", walk.go(0), NONE);
        edges.due("ran", walk.ran(0, 0), NO_SUCH);
        edges.due("finds", walk.finds(0, 0), NO_SUCH);
        edges.due("does", walk.does(0), NONE);
        edges.due("on", walk.on(0, 0), NONE);
        edges.due("state", walk.state(0), NONE);
        edges.due("door", walk.door(0, 0), NONE);
        noTrials(walk);
        edges.due("match", walk.match(0, 5, 0), NONE);
        edges.due("worth", walk.worth(0, 5), 0);
        edges.due("track", walk.track(0, 0, 5, 0), NONE);
        edges.due("dark", walk.dark(), 0);
        for (int k = 0; k < 3; k++) {
            edges.due("again " + k, walk.again(k), false);
        }
        PavementWalk other = Checks.running("size 2 1;walker 0 0 east;", "go;", 1);
        other.hat(0, 1, 1);
        other.image(0);
        PavementWalk third = new PavementWalk();
        edges.dueRow("count beside another object", third::count, 0, 0, 0);
        edges.due("again beside another object", third.again(0), false);
    }

    private void noTrials(PavementWalk walk) {
        edges.due("two", walk.two(0, 0, 0, 0), NONE);
        edges.due("fullest", walk.fullest(0, 0, 1, 1), NONE);
        edges.due("pillar", walk.pillar(0, 0, 1, 1), NONE);
        edges.due("cost", walk.cost(0, 0, 1, 1, 0), -100000);
        edges.due("better", walk.better(0, 1, 1), NONE);
        edges.due("flow", walk.flow(0, 0, 1, 1), NONE);
        edges.due("touch", walk.touch(0, 0, 1, 1, 0, 1), NONE);
        edges.due("slack", walk.slack(0, 0, 1, 1, 0), NONE);
        edges.due("opened", walk.opened(0, 0, 1, 1), NONE);
        edges.due("fits", walk.fits(0, 0, 1), NONE);
    }

    private void feed() {
        edges.promise(2, "The tape: twenty bytes come behind it, of each number the highest first: "
            + "how many it has.");
        PavementWalk walk = new PavementWalk();
        // "size 7 3;wall 6 2;  "
        edges.due("the first twenty",
            walk.feed(0x73697a65, 0x20372033, 0x3b77616c, 0x6c203620, 0x323b2020), 20);
        edges.due("their text", walk.passage(NONE), 0);
        edges.dueRow("about", what -> walk.about(0, what), 7, 3, 0, 1);
        edges.due("from 0 on again", walk.feed(BLANKS, BLANKS, BLANKS, BLANKS, BLANKS), 20);
        edges.due("behind it", walk.feed(BLANKS, BLANKS, BLANKS, BLANKS, 0x20202080), 40);
        edges.due("the last byte is bad", walk.law(NONE), NONE);
        edges.due("its place", walk.fault(1), 39);
        walk.feed(LEAST, BLANKS, BLANKS, BLANKS, BLANKS);
        edges.due("the first byte is bad", walk.law(NONE), NONE);
        edges.due("its place", walk.fault(1), 0);
        walk.feed(BLANKS, BLANKS, BLANKS, -1, BLANKS);
        edges.due("the 13th byte is bad", walk.law(NONE), NONE);
        edges.due("its place", walk.fault(1), 12);
        walk.feed(BLANKS, BLANKS, BLANKS, BLANKS, BLANKS);
        walk.end(3);
        edges.due("behind three", walk.feed(BLANKS, BLANKS, BLANKS, BLANKS, BLANKS), 23);
    }

    private static void fillTape(PavementWalk walk) {
        for (int k = 0; k < 25; k++) {
            walk.feed(BLANKS, BLANKS, BLANKS, BLANKS, BLANKS);
        }
    }

    private void fullTape() {
        edges.promise(2, "NONE, and nothing comes, if there would be more than 500.");
        PavementWalk walk = new PavementWalk();
        fillTape(walk);
        edges.due("to 520", walk.feed(MARKS, MARKS, MARKS, MARKS, MARKS), NONE);
        edges.due("nothing came", walk.end(501), NONE);
        edges.due("500 are there", walk.end(500), 500);
        edges.due("as they were", walk.law(NONE), 0);
        fillTape(walk);
        walk.end(481);
        edges.due("to 501", walk.feed(MARKS, MARKS, MARKS, MARKS, MARKS), NONE);
        edges.due("no byte of them came", walk.end(482), NONE);
        edges.due("481 as they were", walk.law(NONE), 1);
        fillTape(walk);
        walk.end(480);
        edges.due("to 500", walk.feed(BLANKS, BLANKS, BLANKS, BLANKS, 0x20202021), 500);
        edges.due("with the last byte", walk.law(NONE), NONE);
        edges.due("its place", walk.fault(1), 499);
        edges.term("THE TAPE has at most 500 bytes.");
        fillTape(walk);
        edges.due("501", walk.feed(MARKS, MARKS, MARKS, MARKS, MARKS), NONE);
        edges.due("all of 500 blanks are read", walk.passage(NONE), NONE);
        edges.due("till the end", walk.fault(1), 500);
    }

    private void end() {
        edges.promise(3, "The tape has its first n bytes alone: n.");
        PavementWalk walk = new PavementWalk();
        Checks.tell(walk, "size 2 2;wall 9 9;");
        edges.due("all of them", walk.end(18), 18);
        edges.due("nine", walk.end(9), 9);
        edges.due("the others are gone", walk.end(10), NONE);
        edges.due("nine, once more", walk.end(9), 9);
        edges.due("their text", walk.passage(NONE), 0);
        edges.due("no WALL", walk.about(0, 3), 0);
        edges.due("none of none", walk.end(0), 0);
        Checks.tell(walk, "go;");
        edges.due("none of three", walk.end(0), 0);
        edges.due("an empty text", walk.law(NONE), 0);
        edges.due("no RULES", walk.rules(0), 0);
    }

    private void endRefused() {
        edges.promise(3, "NONE if it has not so many, or n is below 0.");
        PavementWalk walk = new PavementWalk();
        edges.dueAll("end without a tape", walk::end, NONE, 1, -1, LEAST, GREATEST);
        Checks.tell(walk, "go;go;");
        edges.dueAll("end of six bytes", walk::end, NONE, 7, 500, -1, LEAST, GREATEST);
        edges.due("six stay", walk.end(6), 6);
        edges.due("as they were", walk.law(NONE), 0);
        edges.due("RULES", walk.rules(0), 2);
    }

    // Promises 4 and 5

    private void passagesGetNumbers() {
        edges.promise(4, "The tape is taken (and is empty then), as a PASSAGE, a further one (at NONE), "
            + "or in the place of one: its number.");
        PavementWalk walk = new PavementWalk();
        for (int k = 0; k < 3; k++) {
            Checks.tell(walk, "size 2 " + (k + 1) + ";");
            edges.due("a further one", walk.passage(NONE), k);
            edges.due("no tape then", walk.end(1), NONE);
            edges.due("PASSAGES", walk.count(0), k + 1);
        }
        for (int k = 0; k < 3; k++) {
            Checks.tell(walk, "size 16 6;wall 0 0;wall 15 5;wall 5 " + k + ";");
            edges.due("in the place of " + k, walk.passage(k), k);
            edges.due("no tape then", walk.end(1), NONE);
            edges.due("PASSAGES as before", walk.count(0), 3);
            for (int other = 0; other < 3; other++) {
                edges.due("LENGTH of " + other, walk.about(other, 0), other <= k ? 16 : 2);
                edges.due("WALLS of " + other, walk.about(other, 3), other <= k ? 3 : 0);
            }
        }
        // The first SQUARE and the last one are free again.
        Checks.tell(walk, "size 16 6;wall 15 5;walker 0 0 east;");
        edges.due("nothing is left of the old one", walk.passage(1), 1);
        edges.dueRow("about", what -> walk.about(1, what), 16, 6, 1, 1);
        Checks.law(walk, "go;");
        walk.run(1, 0, 1);
        edges.due("on the first SQUARE", walk.on(0, 0), 0);
        edges.due("on an old WALL", walk.on(5, 1), NONE);
        edges.due("on the last SQUARE", walk.on(15, 5), 100);
    }

    private void passageWithFault() {
        edges.promise(4, "NONE: a FAULT.");
        PavementWalk walk = new PavementWalk();
        edges.due("an empty tape", walk.passage(NONE), NONE);
        edges.due("its FAULT", walk.fault(0), 1);
        Checks.tell(walk, "size 1 1;");
        edges.due("too short", walk.passage(NONE), NONE);
        edges.due("no tape then", walk.end(1), NONE);
        edges.due("no PASSAGES", walk.count(0), 0);
        Checks.passage(walk, "size 9 3;wall 1 1;walker 0 0 east;pace 0 2;");
        Checks.tell(walk, "size 5 5;wall 2 2;wall 3 3;walker 1 1 west;late 0 4;");
        edges.due("in the place of 0", walk.passage(0), NONE);
        edges.due("the FAULT", walk.fault(0), 2);
        edges.due("no tape then", walk.end(1), NONE);
        edges.dueRow("0 stays", what -> walk.about(0, what), 9, 3, 1, 1);
        edges.dueRow("its WALKER", what -> walk.walker(0, 0, what), 0, 0, 1, 2);
        Checks.tell(walk, "size 5 5;oh");
        edges.due("a further one", walk.passage(NONE), NONE);
        edges.due("still one", walk.count(0), 1);
        Checks.tell(walk, "size 5 5;");
        edges.due("a sound one", walk.passage(NONE), 1);
    }

    private void passageRefused() {
        edges.promise(4, "-2: there is none such, or there are 3 (the tape is empty then, too; no text is "
            + "read, FAULT 0).");
        PavementWalk walk = new PavementWalk();
        refusedPassages(walk, 0, 1, 2, 3, -2, LEAST, GREATEST);
        Checks.passage(walk, "size 4 4;");
        refusedPassages(walk, 1, 2, 3, -2, LEAST, GREATEST);
        Checks.passage(walk, "size 4 4;");
        Checks.passage(walk, "size 4 4;");
        refusedPassages(walk, NONE, 3, 4, -2, LEAST, GREATEST);
        edges.due("three", walk.count(0), 3);
        edges.dueRow("LENGTHS", k -> walk.about(k, 0), 4, 4, 4, NONE);
    }

    /** A text without a FAULT and one with, each behind a FAULT of a LAW. */
    private void refusedPassages(PavementWalk walk, int... places) {
        int before = walk.count(0);
        for (int at : places) {
            for (String text : new String[] {"size 7 3;", "size 1 !"}) {
                Checks.law(walk, "if");
                Checks.tell(walk, text);
                edges.due("passage(" + at + ") of " + before, walk.passage(at), NO_SUCH);
                edges.due("no tape then", walk.end(1), NONE);
                edges.dueRow("fault", walk::fault, 0, NONE);
                edges.due("PASSAGES", walk.count(0), before);
            }
        }
    }

    private void runOfPassageGoesOn() {
        edges.promise(4, "(A RUN of it goes on as it was.)");
        PavementWalk walk = Checks.running("size 9 3;wall 8 2;walker 0 1 east;pace 0 2;walker 5 0 west;",
            "go;", 1);
        walk.go(3);
        Checks.tell(walk, "size 2 1;walker 0 0 west;");
        edges.due("told anew", walk.passage(0), 0);
        edges.dueRow("ran 0", what -> walk.ran(0, what), 2, 1, NONE, 2, 0, 0, 0);
        edges.dueRow("ran 1", what -> walk.ran(1, what), 2, 0, NONE, 3, 0, 0, 0);
        edges.due("its WALL", walk.on(8, 2), 100);
        edges.due("its last DOOR", walk.door(7, 2), 0);
        edges.due("both go on, 0 by his PACE", walk.go(2), 3);
        edges.due("0", walk.ran(0, 0), 3);
        edges.due("a new RUN is of the new one", walk.run(0, 0, 1), true);
        edges.due("his way", walk.go(1), 1);
        edges.due("out in the WEST", walk.ran(0, 2), 0);
        edges.due("no second WALKER", walk.ran(1, 0), NO_SUCH);
    }

    private void lawsAlike() {
        edges.promise(5, "The same as a LAW.");
        PavementWalk walk = new PavementWalk();
        refusedLaws(walk, 0, 1, 2, 3, -2, LEAST, GREATEST);
        for (int k = 0; k < 3; k++) {
            Checks.tell(walk, "go;".repeat(k));
            edges.due("a further one", walk.law(NONE), k);
            edges.due("no tape then", walk.end(1), NONE);
            edges.due("LAWS", walk.count(1), k + 1);
            if (k == 0) {
                refusedLaws(walk, 1, 2, 3, -2, LEAST, GREATEST);
            }
        }
        refusedLaws(walk, NONE, 3, 4, -2, LEAST, GREATEST);
        edges.dueRow("RULES", walk::rules, 0, 1, 2, NONE);
        for (int k = 0; k < 3; k++) {
            Checks.tell(walk, "wait;".repeat(16 - k));
            edges.due("in the place of " + k, walk.law(k), k);
            edges.due("no tape then", walk.end(1), NONE);
        }
        edges.dueRow("RULES", walk::rules, 16, 15, 14, NONE);
        Checks.tell(walk, "left;if");
        edges.due("a FAULT", walk.law(2), NONE);
        edges.dueRow("fault", walk::fault, 1, 7);
        edges.due("no tape then", walk.end(1), NONE);
        edges.due("2 stays", walk.rules(2), 14);
        PavementWalk run = Checks.running("size 9 2;walker 0 0 east;", "if ahead<9 and not blocked:go;go;", 1);
        Checks.tell(run, "if waited=0:right;wait;left;");
        edges.due("told anew", run.law(0), 0);
        edges.due("a RUN of it goes on as it was", run.does(0), 0);
        edges.due("its moves", run.go(2), 2);
        run.run(0, 0, 1);
        edges.due("a new RUN is by the new one", run.does(0), 1);
    }

    private void refusedLaws(PavementWalk walk, int... places) {
        int before = walk.count(1);
        for (int at : places) {
            for (String text : new String[] {"go;", "", "if go;"}) {
                walk.passage(NONE);
                Checks.tell(walk, text);
                edges.due("law(" + at + ") of " + before, walk.law(at), NO_SUCH);
                edges.due("no tape then", walk.end(1), NONE);
                edges.dueRow("fault", walk::fault, 0, NONE);
                edges.due("LAWS", walk.count(1), before);
            }
        }
    }

    // Promises 6 to 9

    private void fault() {
        edges.promise(6, "Of the latest passage() or law(), what 0: the FAULT, 0 without, 1: its place, "
            + "NONE without.");
        PavementWalk walk = new PavementWalk();
        edges.dueRow("before both", walk::fault, 0, NONE);
        Checks.passage(walk, "size 17 1;");
        edges.dueRow("of a PASSAGE", walk::fault, 2, 5);
        Checks.tell(walk, "size");
        walk.run(0, 0, 1);
        walk.end(0);
        edges.dueRow("it stays till the next one", walk::fault, 2, 5);
        Checks.law(walk, "go;");
        edges.dueRow("of a sound LAW", walk::fault, 0, NONE);
        Checks.law(walk, "go;".repeat(17));
        edges.dueRow("of a LAW", walk::fault, 3, 48);
        Checks.passage(walk, "size 2 1;wall 0 0;wall 0 0;");
        edges.dueRow("of a PASSAGE", walk::fault, 4, 23);
        Checks.passage(walk, "size 2 1;");
        edges.dueRow("of a sound PASSAGE", walk::fault, 0, NONE);
        edges.due("an empty one", walk.passage(NONE), NONE);
        edges.dueRow("at place 0", walk::fault, 1, 0);
        edges.promise(6, "NONE for another what.");
        edges.dueAll("with a FAULT", walk::fault, NONE, 2, 3, -1, -2, LEAST, GREATEST);
        Checks.law(walk, "");
        edges.dueAll("without one", walk::fault, NONE, 2, -1);
    }

    private void about() {
        edges.promise(7, "Of a PASSAGE, what 0: LENGTH, 1: WIDTH, 2: WALKERS, 3: WALLS.");
        PavementWalk walk = new PavementWalk();
        Checks.passage(walk, "size 2 1;");
        edges.dueRow("the least", what -> walk.about(0, what), 2, 1, 0, 0);
        StringBuilder most = new StringBuilder("size 16 6;");
        for (int k = 0; k < 12; k++) {
            most.append("walker ").append(k).append(" 0 east;");
        }
        for (int k = 0; k < 28; k++) {
            most.append("wall ").append(k % 10).append(" ").append(1 + k / 10).append(";");
        }
        Checks.passage(walk, most.toString());
        edges.dueRow("the greatest", what -> walk.about(1, what), 16, 6, 12, 28);
        Checks.passage(walk, "size 2 2;wall 0 0;wall 0 1;wall 1 0;wall 1 1;");
        edges.dueRow("all WALLS", what -> walk.about(2, what), 2, 2, 0, 4);
        edges.promise(7, "NONE: there is none such, or for another what.");
        edges.dueAll("no PASSAGE", k -> walk.about(k, 0), NONE, 3, -1, -2, LEAST, GREATEST);
        edges.dueAll("another what", what -> walk.about(1, what), NONE, 4, -1, LEAST, GREATEST);
        PavementWalk one = Checks.told("size 2 1;", "");
        edges.dueAll("no PASSAGE yet", k -> one.about(k, 0), NONE, 1, 2);
    }

    private void walker() {
        edges.promise(8, "Of a WALKER of a PASSAGE, what 0: x, 1: y at first, 2: 1 if EAST, else 0, 3: PACE, "
            + "4: LATE, 5: HASTE, 6: HAND (1 right, 2 left, 0 none), 7: FRIEND (NONE: none).");
        PavementWalk walk = Checks.running("size 16 6;walker 0 0 east;walker 15 5 west;pace 1 4;late 1 3;"
            + "haste 1 9;hand 1 left;walker 1 0 west;hand 2 right;friends 2 1;", "wait;go;", 1);
        edges.dueRow("walker 0", what -> walk.walker(0, 0, what), 0, 0, 1, 1, 0, 0, 0, NONE);
        edges.dueRow("walker 1", what -> walk.walker(0, 1, what), 15, 5, 0, 4, 3, 9, 2, 2);
        edges.dueRow("walker 2", what -> walk.walker(0, 2, what), 1, 0, 0, 1, 0, 0, 1, 1);
        Checks.law(walk, "go;");
        walk.run(0, 1, 1);
        walk.go(9);
        edges.dueRow("at first, whatever the RUN", what -> walk.walker(0, 1, what), 15, 5, 0);
        edges.promise(8, "-2: there is none such, or for another what.");
        edges.dueAll("another what", what -> walk.walker(0, 1, what), NO_SUCH, 8, -1, LEAST, GREATEST);
        edges.dueAll("no WALKER", w -> walk.walker(0, w, 7), NO_SUCH, 3, 11, 12, -1, LEAST, GREATEST);
        edges.dueAll("no PASSAGE", k -> walk.walker(k, 0, 0), NO_SUCH, 1, 3, -1, LEAST, GREATEST);
        PavementWalk empty = Checks.told("size 2 1;", "");
        edges.due("without WALKERS", empty.walker(0, 0, 0), NO_SUCH);
    }

    private void rules() {
        edges.promise(9, "How many RULES a LAW has");
        PavementWalk walk = new PavementWalk();
        Checks.law(walk, "");
        Checks.law(walk, "if blocked and facing:go;wait;".repeat(8));
        edges.dueRow("none, and the most", walk::rules, 0, 16);
        edges.promise(9, "NONE: there is none such.");
        edges.dueAll("rules", walk::rules, NONE, 2, 3, -1, -2, LEAST, GREATEST);
    }

    // Term 1

    private int passageOf(String text) {
        return Checks.passage(new PavementWalk(), text);
    }

    private void sizes() {
        edges.term("A PASSAGE has SQUARES x, y, below its LENGTH (2 .. 16) and WIDTH (1 .. 6)");
        for (int length = 0; length <= 20; length++) {
            boolean is = length >= 2 && length <= 16;
            edges.due("LENGTH " + length, passageOf("size " + length + " 1;"), is ? 0 : NONE);
        }
        for (int width = 0; width <= 10; width++) {
            boolean is = width >= 1 && width <= 6;
            edges.due("WIDTH " + width, passageOf("size 2 " + width + ";"), is ? 0 : NONE);
        }
        edges.due("the last SQUARE", passageOf("size 16 6;wall 15 5;"), 0);
        edges.due("x of no SQUARE", passageOf("size 16 6;wall 16 5;"), NONE);
        edges.due("y of no SQUARE", passageOf("size 16 6;wall 15 6;"), NONE);
        edges.term("some are WALLS.");
        edges.due("none is", passageOf("size 2 1;"), 0);
        edges.due("all are", passageOf("size 2 1;wall 0 0;wall 1 0;"), 0);
    }

    private void walkersAtMost() {
        edges.term("WALKERS, at most 12, from 0 on, each on a SQUARE of its own");
        StringBuilder text = new StringBuilder("size 16 6;");
        for (int k = 0; k < 13; k++) {
            PavementWalk walk = new PavementWalk();
            edges.due(k + " WALKERS", Checks.passage(walk, text.toString()), 0);
            edges.due("WALKERS", walk.about(0, 2), k);
            edges.due("the last one", walk.walker(0, k - 1, 0), k == 0 ? NO_SUCH : k - 1);
            edges.due("no further one", walk.walker(0, k, 0), NO_SUCH);
            text.append("walker ").append(k).append(" 0 east;");
        }
        edges.due("13", passageOf(text.toString()), NONE);
        edges.due("two on one SQUARE", passageOf("size 2 2;walker 1 0 east;walker 1 0 west;"), NONE);
        edges.due("side by side", passageOf("size 2 2;walker 1 0 east;walker 1 1 west;"), 0);
    }

    private void traits() {
        edges.term("PACE 1 .. 4 (1 at first), LATE 0 .. 3 (0), HASTE 0 .. 9 (0), a HAND, right or left (none), "
            + "a FRIEND (none; each the other's).");
        PavementWalk walk = Checks.told("size 4 2;walker 0 0 east;walker 1 0 west;", "");
        edges.dueRow("at first", what -> walk.walker(0, 1, what), 1, 0, 0, 1, 0, 0, 0, NONE);
        for (int much = 0; much <= 12; much++) {
            trait("pace", 3, much, much >= 1 && much <= 4);
            trait("late", 4, much, much <= 3);
            trait("haste", 5, much, much <= 9);
        }
        Checks.tell(walk, "size 4 2;walker 0 0 east;walker 1 0 west;walker 2 0 west;friends 2 0;");
        edges.due("passage", walk.passage(0), 0);
        edges.dueRow("each the other's", w -> walk.walker(0, w, 7), 2, NONE, 0);
    }

    private void trait(String word, int what, int much, boolean is) {
        PavementWalk walk = new PavementWalk();
        String text = "size 4 2;walker 0 0 east;" + word + " 0 " + much + ";";
        edges.due(text, Checks.passage(walk, text), is ? 0 : NONE);
        edges.due(text + " told", walk.walker(0, 0, what), is ? much : NO_SUCH);
    }

    private void tokens() {
        edges.term("TOKENS, as long as they go, blanks (10, 32) between: words, rows of letters a .. z; "
            + "NUMBERS, 1 to 3 digits; signs : ; < > = one byte each.");
        edges.due("no blank where none is needed", passageOf("size2 2;wall1 1;walker0 0east;"), 0);
        edges.due("blanks of both kinds", passageOf("\n \nsize\n \n2 2\n;\n wall 1\n1 ; \n"), 0);
        for (int b = 0; b < 256; b++) {
            PavementWalk walk = new PavementWalk();
            boolean blank = b == 10 || b == 32;
            boolean digit = b >= '0' && b <= '9';
            boolean sound = blank || b == '0' || b == '1';
            edges.due("byte " + b, Checks.passage(walk, "size " + (char) b + "2 2;"), sound ? 0 : NONE);
            edges.due("its FAULT", walk.fault(0), sound ? 0 : digit ? 2 : 1);
            edges.due("its place", walk.fault(1), sound ? NONE : 5);
        }
        PavementWalk walk = new PavementWalk();
        Checks.passage(walk, "size 016 006;wall 015 005;");
        edges.dueRow("three digits", what -> walk.about(0, what), 16, 6, 0, 1);
        edges.due("four digits", passageOf("size 0016 6;"), NONE);
        edges.due("a word that goes on", passageOf("sizes 2 2;"), NONE);
        edges.due("digits that go on", passageOf("size 22;"), NONE);
        edges.due("no LINES", passageOf("size 2 2;"), 0);
        PavementWalk laws = new PavementWalk();
        edges.due("all signs without blanks", Checks.law(laws, "if ahead<1and soon>2and near=3:go;wait;"), 0);
        edges.due("no RULES", Checks.law(laws, "\n"), 1);
        edges.dueRow("rules", laws::rules, 2, 0);
        edges.due("the greatest NUMBER", Checks.law(laws, "if ahead<999:go;"), 2);
    }

    private void laterOnes() {
        edges.term("Later ones strike, but walls and walkers, which are further ones");
        PavementWalk walk = new PavementWalk();
        Checks.passage(walk, "size 9 3;walker 0 0 east;pace 0 4;late 0 3;haste 0 9;hand 0 left;wall 1 1;"
            + "walker 0 1 west;pace 0 1;late 0 0;haste 0 0;hand 0 right;wall 1 2;");
        edges.dueRow("walker 0", what -> walk.walker(0, 0, what), 0, 0, 1, 1, 0, 0, 1, NONE);
        edges.dueRow("walker 1", what -> walk.walker(0, 1, what), 0, 1, 0, 1, 0, 0, 0, NONE);
        edges.dueRow("about", what -> walk.about(0, what), 9, 3, 2, 2);
        edges.term("new friends part from those they had.");
        String four = "size 9 1;walker 0 0 east;walker 1 0 east;walker 2 0 east;walker 3 0 east;";
        Checks.passage(walk, four + "friends 0 1;friends 2 3;friends 3 0;");
        edges.dueRow("both had one", w -> walk.walker(1, w, 7), 3, NONE, NONE, 0);
        Checks.passage(walk, four + "friends 0 1;friends 1 0;friends 0 2;friends 0 1;");
        edges.dueRow("back again", w -> walk.walker(2, w, 7), 1, 0, NONE, NONE);
    }

    private void threeOfEach() {
        edges.term("PASSAGES and LAWS, at most 3 of each, from 0 on.");
        PavementWalk walk = new PavementWalk();
        edges.dueRow("passages", k -> Checks.passage(walk, "size 2 1;"), 0, 1, 2, NO_SUCH, NO_SUCH);
        edges.dueRow("laws", k -> Checks.law(walk, "go;"), 0, 1, 2, NO_SUCH, NO_SUCH);
        edges.dueRow("count", walk::count, 3, 3);
    }
}
