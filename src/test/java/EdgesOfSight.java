/** Of Term 2 what a WALKER finds: each of it at its least, its greatest, and with nobody there. */
final class EdgesOfSight {
    private static final int AHEAD = 0;
    private static final int SOON = 1;
    private static final int NEAR = 2;
    private static final int RIGHT = 3;
    private static final int LEFT = 4;
    private static final int WAITED = 5;
    private static final int CROWD = 7;
    private static final int BLOCKED = 8;
    private static final int FACING = 9;
    private static final int PARTED = 10;

    private final Edges edges;

    EdgesOfSight(Edges edges) {
        this.edges = edges;
    }

    void test() {
        late();
        lateGhosts();
        himself();
        ahead();
        sides();
        facing();
        soonWithout();
        soonByPaces();
        near();
        blocked();
        crowdAndParted();
        friendless();
        waited();
        haste();
    }

    private static PavementWalk run(String passage) {
        return Checks.running(passage, "wait;", 1);
    }

    private void finds(String passage, int what, int due) {
        edges.due(passage, run(passage).finds(0, what), due);
    }

    private void late() {
        edges.term("He SEES other WALKERS as they were LATE tenths ago (as at first, if that was none yet)");
        for (int late = 0; late <= 3; late++) {
            PavementWalk walk = Checks.running("size 16 2;walker 0 0 east;haste 0 1;late 0 " + late
                + ";walker 9 0 west;", "if haste=0:go;wait;", 1);
            for (int t = 0; t - late < 9; t++) {
                int seen = 9 - Math.max(0, t - late);
                edges.due("LATE " + late + " ahead at " + t, walk.finds(0, AHEAD), seen - 1);
                edges.due("LATE " + late + " near at " + t, walk.finds(0, NEAR), seen);
                walk.go(1);
            }
        }
    }

    private void lateGhosts() {
        edges.term("He SEES other WALKERS as they were LATE tenths ago");
        for (int late = 0; late <= 3; late++) {
            // 1 is out in TENTH 0, 2 goes from the row in TENTH 1.
            PavementWalk walk = Checks.running("size 9 3;walker 0 1 east;late 0 " + late + ";walker 0 2 west;haste 1 9;"
                + "friends 0 1;walker 2 1 west;haste 2 8;pace 2 2;", "if haste=9:go;if waited>0 and haste=8:right;", 1);
            for (int t = 0; t < 8; t++) {
                boolean gone = t - late >= 1;
                edges.due("LATE " + late + " crowd at " + t, walk.finds(0, CROWD), t - late >= 3 ? 0 : gone ? 1 : 2);
                edges.due("LATE " + late + " right at " + t, walk.finds(0, RIGHT), gone ? 1 : 0);
                edges.due("LATE " + late + " ahead at " + t, walk.finds(0, AHEAD), t - late >= 3 ? 9 : 1);
                walk.go(1);
            }
        }
    }

    private void himself() {
        edges.term("himself as he is");
        PavementWalk alone = Checks.running("size 16 2;walker 0 0 east;late 0 3;", "go;", 1);
        for (int t = 0; t < 4; t++) {
            edges.due("not near himself at " + t, alone.finds(0, NEAR), 99);
            edges.due("nobody behind him at " + t, alone.finds(0, CROWD), 0);
            alone.go(1);
        }
        PavementWalk wall = Checks.running("size 16 2;walker 0 0 east;late 0 3;wall 5 0;", "go;", 1);
        for (int t = 0; t < 6; t++) {
            edges.due("the WALL at " + t, wall.finds(0, AHEAD), Math.max(0, 4 - t));
            wall.go(1);
        }
        PavementWalk on = Checks.running("size 16 2;walker 1 0 east;haste 0 9;walker 0 0 east;late 1 1;", "go;", 1);
        on.go(1);
        edges.due("the SQUARE where he sees the other is his", on.finds(1, NEAR), 0);
        edges.due("it is not ahead", on.finds(1, AHEAD), 9);
        edges.due("it is near", on.finds(1, CROWD), 1);
        edges.due("nor at his right", on.finds(1, RIGHT), 1);
    }

    private void ahead() {
        edges.term("ahead: how many SQUARES straight ahead are free, as he sees it, till a WALL or a WALKER (9 at "
            + "most; out of the PASSAGE all are free)");
        for (int x = 1; x <= 15; x++) {
            int free = Math.min(9, x - 1);
            finds("size 16 1;walker 0 0 east;walker " + x + " 0 west;", AHEAD, free);
            finds("size 16 1;walker 0 0 east;walker " + x + " 0 east;", AHEAD, free);
            finds("size 16 1;walker 0 0 east;wall " + x + " 0;", AHEAD, free);
            finds("size 16 1;walker 15 0 west;wall " + (15 - x) + " 0;", AHEAD, free);
            finds("size 16 1;walker " + x + " 0 east;walker 0 0 west;", AHEAD, 9);
        }
        finds("size 16 1;walker 15 0 east;", AHEAD, 9);
        finds("size 2 1;walker 0 0 east;", AHEAD, 9);
        finds("size 2 1;walker 0 0 west;wall 1 0;", AHEAD, 9);
        finds("size 9 2;walker 0 0 east;walker 3 1 west;wall 1 1;", AHEAD, 9);
        finds("size 9 2;walker 0 0 east;wall 3 0;walker 5 0 west;", AHEAD, 2);
        finds("size 9 2;walker 0 0 east;wall 5 0;walker 3 0 west;", AHEAD, 2);
        finds("size 9 2;walker 0 0 east;walker 5 0 west;walker 3 0 west;", AHEAD, 2);
    }

    private void sides() {
        edges.term("right, left: the same to these sides, but out of the PASSAGE none is free.");
        for (int y = 0; y < 6; y++) {
            finds("size 16 6;walker 3 " + y + " east;", RIGHT, 5 - y);
            finds("size 16 6;walker 3 " + y + " east;", LEFT, y);
            finds("size 16 6;walker 3 " + y + " west;", RIGHT, y);
            finds("size 16 6;walker 3 " + y + " west;", LEFT, 5 - y);
            if (y > 0) {
                finds("size 16 6;walker 3 0 east;wall 3 " + y + ";", RIGHT, y - 1);
                finds("size 16 6;walker 3 0 east;walker 3 " + y + " west;", RIGHT, y - 1);
                finds("size 16 6;walker 3 0 west;walker 3 " + y + " west;", LEFT, y - 1);
                finds("size 16 6;walker 3 0 west;wall 4 " + y + ";", LEFT, 5);
            }
        }
        finds("size 2 1;walker 0 0 east;", RIGHT, 0);
        finds("size 2 1;walker 0 0 east;", LEFT, 0);
    }

    private void facing() {
        edges.term("facing: ahead of him the first that is not free has a WALKER who goes the other way (however "
            + "far).");
        for (int x = 1; x <= 15; x++) {
            finds("size 16 1;walker 0 0 east;walker " + x + " 0 west;", FACING, 1);
            finds("size 16 1;walker 0 0 east;walker " + x + " 0 east;", FACING, 0);
        }
        finds("size 16 1;walker 15 0 west;walker 0 0 east;", FACING, 1);
        finds("size 16 1;walker 0 0 west;walker 15 0 east;", FACING, 0);
        finds("size 16 1;walker 0 0 east;walker 15 0 west;wall 14 0;", FACING, 0);
        finds("size 16 1;walker 0 0 east;walker 15 0 west;walker 14 0 east;", FACING, 0);
        finds("size 16 1;walker 0 0 east;walker 15 0 east;walker 14 0 west;", FACING, 1);
        finds("size 16 2;walker 0 0 east;walker 1 1 west;", FACING, 0);
        finds("size 16 2;walker 0 0 east;", FACING, 0);
    }

    private void soonWithout() {
        edges.term("soon: without one straight ahead, or a WALL before him, 99");
        finds("size 16 2;walker 0 0 east;", SOON, 99);
        finds("size 16 2;walker 0 0 east;walker 1 1 west;", SOON, 99);
        finds("size 16 2;walker 9 0 east;walker 8 0 west;", SOON, 99);
        finds("size 16 2;walker 0 0 east;wall 1 0;", SOON, 99);
        finds("size 16 2;walker 0 0 east;wall 1 0;walker 2 0 west;", SOON, 99);
        finds("size 16 2;walker 0 0 east;wall 3 0;walker 2 0 west;", SOON, 0);
    }

    private void soonByPaces() {
        edges.term("ahead times the PACES multiplied, by the sum of both PACES if he faces him, else by the difference "
            + "of his PACE from his own if the other's is greater (99 if not), cut, 99 at most.");
        for (int own = 1; own <= 4; own++) {
            for (int other = 1; other <= 4; other++) {
                for (int x = 1; x <= 15; x++) {
                    int ahead = Math.min(9, x - 1);
                    String two = "size 16 1;walker 0 0 east;pace 0 " + own + ";walker " + x + " 0 ";
                    String pace = "pace 1 " + other + ";";
                    finds(two + "west;" + pace, SOON, ahead * own * other / (own + other));
                    finds(two + "east;" + pace, SOON,
                        other > own ? Math.min(99, ahead * own * other / (other - own)) : 99);
                }
            }
        }
    }

    private void near() {
        edges.term("near: the least of |dx| + |dy| to another WALKER (99 without).");
        finds("size 16 6;walker 0 0 east;", NEAR, 99);
        finds("size 16 6;walker 0 0 east;walker 15 5 west;", NEAR, 20);
        finds("size 16 6;walker 15 5 east;walker 0 0 west;walker 15 0 east;", NEAR, 5);
        finds("size 16 6;walker 3 3 east;walker 2 3 west;walker 3 1 west;", NEAR, 1);
        finds("size 16 6;walker 3 3 east;walker 2 2 west;wall 3 2;", NEAR, 2);
        PavementWalk out = Checks.running("size 2 1;walker 0 0 east;walker 1 0 east;", "if ahead=9:go;", 1);
        edges.due("beside him", out.finds(0, NEAR), 1);
        out.go(1);
        edges.due("who ARRIVED is not there", out.finds(0, NEAR), 99);
    }

    private void blocked() {
        edges.term("blocked: ahead is 0.");
        finds("size 4 1;walker 0 0 east;walker 1 0 west;", BLOCKED, 1);
        finds("size 4 1;walker 0 0 east;wall 1 0;", BLOCKED, 1);
        finds("size 4 1;walker 0 0 east;wall 2 0;", BLOCKED, 0);
        finds("size 4 1;walker 3 0 east;", BLOCKED, 0);
        finds("size 4 1;walker 0 0 west;", BLOCKED, 0);
        finds("size 4 2;walker 0 0 east;wall 0 1;wall 1 1;", BLOCKED, 0);
    }

    private void crowdAndParted() {
        edges.term("crowd: how many are 2 or less so far off.");
        int[][] far = {{3, 1}, {4, 2}, {5, 2}, {3, 3}, {6, 2}, {5, 3}, {4, 4}, {2, 3}, {1, 1}, {3, 0}, {3, 5}, {15, 5}};
        for (int[] at : far) {
            int apart = Math.abs(at[0] - 3) + Math.abs(at[1] - 2);
            finds("size 16 6;walker 3 2 east;walker " + at[0] + " " + at[1] + " east;", CROWD, apart <= 2 ? 1 : 0);
        }
        finds("size 16 6;walker 3 2 east;", CROWD, 0);
        finds("size 16 6;walker 3 2 east;walker 3 1 east;walker 3 3 east;walker 2 2 east;walker 4 2 east;"
            + "walker 3 0 east;walker 3 4 west;walker 1 2 east;walker 5 2 east;walker 2 1 east;walker 4 1 east;"
            + "walker 2 3 east;", CROWD, 11);
        edges.term("parted: he sees his FRIEND, more than 2 so far off.");
        for (int[] at : far) {
            int apart = Math.abs(at[0] - 3) + Math.abs(at[1] - 2);
            finds("size 16 6;walker 3 2 east;walker " + at[0] + " " + at[1] + " west;friends 1 0;", PARTED,
                apart > 2 ? 1 : 0);
        }
    }

    private void friendless() {
        edges.term("parted: he sees his FRIEND, more than 2 so far off.");
        finds("size 16 6;walker 3 2 east;walker 9 2 east;", PARTED, 0);
        finds("size 16 6;walker 3 2 east;walker 9 2 east;walker 3 3 east;friends 0 1;friends 0 2;", PARTED, 0);
        finds("size 16 6;walker 3 2 east;walker 9 2 east;walker 3 3 east;friends 0 2;friends 0 1;", PARTED, 1);
        finds("size 16 6;walker 3 2 east;walker 9 2 east;walker 3 3 east;friends 0 1;friends 2 1;", PARTED, 0);
        PavementWalk out = Checks.running("size 9 1;walker 0 0 east;walker 8 0 east;friends 0 1;late 0 1;",
            "if ahead=9:go;", 1);
        edges.due("there", out.finds(0, PARTED), 1);
        out.go(1);
        edges.due("he ARRIVED, but is seen yet", out.finds(0, PARTED), 1);
        out.go(1);
        edges.due("he is seen no more", out.finds(0, PARTED), 0);
    }

    private void waited() {
        edges.term("waited: TENTHS since he moved last (since TENTH 0), 99 at most.");
        PavementWalk walk = Checks.running("size 9 1;walker 0 0 east;walker 1 0 west;", "if waited=99:right;", 1);
        for (int t = 0; t < 120; t++) {
            edges.due("at " + t, walk.finds(0, WAITED), Math.min(99, t));
            edges.due("1 at " + t, walk.ran(1, 6), Math.min(99, t));
            walk.go(1);
        }
        walk.go(200);
        edges.due("at 320", walk.finds(0, WAITED), 99);
        PavementWalk moves = Checks.running("size 9 2;walker 0 0 east;", "if waited=2:right;if waited=99:left;", 1);
        moves.go(3);
        edges.due("he moved", moves.finds(0, WAITED), 0);
        moves.go(3);
        edges.due("a BUMP is no move", moves.finds(0, WAITED), 3);
    }

    private void haste() {
        edges.term("haste: his HASTE.");
        for (int haste = 0; haste <= 9; haste++) {
            finds("size 9 1;walker 0 0 east;haste 0 " + haste + ";", 6, haste);
        }
    }
}
