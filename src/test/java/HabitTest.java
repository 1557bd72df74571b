/** Promise 33: HABIT. */
final class HabitTest {
    private static final Checks CHECKS = new Checks();

    public static void main(String[] args) {
        byHand();
        byAllMeetings();
        allPartsAreThere();
        otherNumbers();
        CHECKS.finish("HabitTest");
    }

    private static void byHand() {
        PavementWalk walk = new PavementWalk();
        CHECKS.due("no MEETING", walk.habit(5, 3, 4, 2, 0, 3), 1);
        CHECKS.due("no MEETING, another", walk.habit(5, 3, 4, 2, 0, 2), 0);
        // One couple: in 4 of 12 both go right then, in 2 both left.
        CHECKS.due("two, 2 right", walk.habit(2, 1, 4, 2, 1, 2), 4);
        CHECKS.due("two, 0 right", walk.habit(2, 1, 4, 2, 1, 0), 2);
        CHECKS.due("two, 1 right", walk.habit(2, 1, 4, 2, 1, 1), 6);
        CHECKS.due("two alike stay", walk.habit(2, 2, 4, 2, 6, 2), 2985984);
        // 3 couples of 12: 2 of them mixed.
        CHECKS.due("three, 2 right", walk.habit(3, 1, 5, 7, 1, 2), 10);
        CHECKS.due("three, 0 right", walk.habit(3, 1, 5, 7, 1, 0), 14);
        CHECKS.due("three, 1 right", walk.habit(3, 1, 5, 7, 1, 1), 12);
        CHECKS.due("too far", walk.habit(8, 1, 12, 0, 6, 8), 0);
    }

    /** All MEETINGS of all people one by one, who goes right as bits. */
    private static long slow(int n, int set, int p, int q, int m, int to) {
        if (m == 0) {
            return Integer.bitCount(set) == to ? 1 : 0;
        }
        long parts = 0;
        for (int a = 0; a < n; a++) {
            for (int b = a + 1; b < n; b++) {
                int both = 1 << a | 1 << b;
                boolean mixed = Integer.bitCount(set & both) == 1;
                if (mixed) {
                    parts += p * slow(n, set | both, p, q, m - 1, to);
                    parts += q * slow(n, set & ~both, p, q, m - 1, to);
                }
                parts += (mixed ? 12 - p - q : 12) * slow(n, set, p, q, m - 1, to);
            }
        }
        return parts;
    }

    private static void byAllMeetings() {
        PavementWalk walk = new PavementWalk();
        int calls = 0;
        for (int n = 2; n <= 6; n++) {
            for (int k = 0; k <= n; k++) {
                for (int to = 0; to <= n; to++) {
                    int p = calls % 13;
                    int q = calls * 7 % (13 - p);
                    int m = calls % 4;
                    calls++;
                    CHECKS.due(n + " " + k + " " + p + " " + q + " " + m + " " + to,
                        walk.habit(n, k, p, q, m, to), slow(n, (1 << k) - 1, p, q, m, to));
                }
            }
        }
    }

    private static void allPartsAreThere() {
        PavementWalk walk = new PavementWalk();
        long all = 0;
        for (int to = 0; to <= 8; to++) {
            all += walk.habit(8, 4, 7, 5, 6, to);
        }
        long parts = 1;
        for (int m = 0; m < 6; m++) {
            parts *= 12 * 28;
        }
        CHECKS.due("eight, six MEETINGS", all, parts);
        CHECKS.due("all go right already", walk.habit(8, 8, 7, 5, 6, 8), parts);
        CHECKS.due("nobody does", walk.habit(8, 0, 7, 5, 6, 0), parts);
    }

    private static void otherNumbers() {
        PavementWalk walk = new PavementWalk();
        int[][] bad = {{1, 1, 1, 1, 1, 1}, {9, 1, 1, 1, 1, 1}, {4, 5, 1, 1, 1, 1},
            {4, -1, 1, 1, 1, 1}, {4, 1, -1, 1, 1, 1}, {4, 1, 1, -1, 1, 1}, {4, 1, 6, 7, 1, 1},
            {4, 1, 13, 0, 1, 1}, {4, 1, 0, 13, 1, 1}, {4, 1, 1, 1, -1, 1}, {4, 1, 1, 1, 7, 1},
            {4, 1, 1, 1, 1, -1}, {4, 1, 1, 1, 1, 5},
            {4, 1, Integer.MAX_VALUE, Integer.MAX_VALUE, 1, 1},
            {4, 1, 5, Integer.MIN_VALUE, 1, 1}};
        for (int[] b : bad) {
            CHECKS.due("habit " + java.util.Arrays.toString(b),
                walk.habit(b[0], b[1], b[2], b[3], b[4], b[5]), -1);
        }
        CHECKS.due("12 and 0", walk.habit(2, 1, 12, 0, 1, 2), 12);
        CHECKS.due("0 and 12", walk.habit(2, 1, 0, 12, 1, 0), 12);
    }
}
