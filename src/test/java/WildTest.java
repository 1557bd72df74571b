import java.lang.management.ManagementFactory;
import java.util.Random;

/** All calls with wild arguments in wild states: none throws, and none makes objects. */
final class WildTest {
    private static final Checks CHECKS = new Checks();
    private static final int[] EDGES = {Integer.MIN_VALUE, Integer.MAX_VALUE, -2, -1, 99, 100, 101,
        200, 201, 500, 1 << 30};
    private static final String[] WORDS = {"size", "wall", "walker", "pace", "late", "haste", "hand",
        "friends", "east", "west", "right", "left", "if", "and", "not", "blocked", "facing", "parted",
        "ahead", "soon", "near", "waited", "crowd", "go", "lot", "wait", ":", ";", ";", "<", ">", "=",
        "0", "1", "2", "3", "16", "17", "999", "1000", "\n", "!", "\u00ff", "x"};

    public static void main(String[] args) {
        com.sun.management.ThreadMXBean bean =
            (com.sun.management.ThreadMXBean) ManagementFactory.getThreadMXBean();
        long id = Thread.currentThread().getId();
        Random random = new Random(36);
        byte[][] texts = new byte[20][];
        long made = 0;
        for (int k = 0; k < 400; k++) {
            for (int t = 0; t < texts.length; t++) {
                texts[t] = text(random);
            }
            PavementWalk walk = new PavementWalk();
            long before = bean.getThreadAllocatedBytes(id);
            for (int call = 0; call < 512; call++) {
                call(walk, random, texts);
            }
            made += bean.getThreadAllocatedBytes(id) - before;
        }
        // A few bytes are the measure's own; one array a call would be millions.
        CHECKS.due("bytes made by calls are few: " + made, made < 400 * 200, true);
        queriesTellNothing();
        CHECKS.finish("WildTest");
    }

    private static byte[] text(Random random) {
        String text;
        switch (random.nextInt(5)) {
            case 0: text = words(random); break;
            case 1: text = Model.randomLaw(random).text; break;
            default: text = Model.randomPlace(random, 1 + random.nextInt(12)).text; break;
        }
        byte[] bytes = text.getBytes(java.nio.charset.StandardCharsets.ISO_8859_1);
        if (bytes.length > 0 && random.nextInt(8) == 0) {
            bytes[random.nextInt(bytes.length)] = (byte) random.nextInt(256);
        }
        return bytes.length > 480 ? new byte[0] : bytes;
    }

    private static String words(Random random) {
        StringBuilder text = new StringBuilder(random.nextBoolean() ? "size 3 3;" : "");
        for (int k = random.nextInt(30); k > 0; k--) {
            text.append(WORDS[random.nextInt(WORDS.length)]).append(random.nextInt(3) == 0 ? "" : " ");
        }
        return text.toString();
    }

    private static int wild(Random random, int below) {
        int kind = random.nextInt(40);
        if (kind == 0) {
            return random.nextInt();
        }
        return kind < 3 ? EDGES[random.nextInt(EDGES.length)] : random.nextInt(below + 1);
    }

    private static void call(PavementWalk w, Random r, byte[][] texts) {
        switch (r.nextInt(40)) {
            case 0: w.feed(r.nextInt(), r.nextInt(), r.nextInt(), r.nextInt(), r.nextInt()); break;
            case 1: w.end(wild(r, 40)); break;
            case 2: w.fault(wild(r, 2)); break;
            case 3: w.about(wild(r, 3), wild(r, 4)); break;
            case 4: w.walker(wild(r, 3), wild(r, 12), wild(r, 8)); break;
            case 5: w.rules(wild(r, 3)); break;
            case 6: case 7: w.run(wild(r, 2), wild(r, 2), r.nextInt()); break;
            case 8: case 9: w.go(wild(r, 9)); break;
            case 10: w.ran(wild(r, 12), wild(r, 7)); break;
            case 11: w.finds(wild(r, 12), wild(r, 11)); break;
            case 12: w.does(wild(r, 12)); break;
            case 13: w.on(wild(r, 16), wild(r, 6)); break;
            case 14: w.state(wild(r, 7)); break;
            case 15: w.door(wild(r, 15), wild(r, 3)); break;
            case 16: w.two(wild(r, 2), wild(r, 2), wild(r, 8), wild(r, 20)); break;
            case 17: w.fullest(wild(r, 2), wild(r, 2), r.nextInt(), wild(r, 50)); break;
            case 18: w.pillar(wild(r, 2), wild(r, 2), r.nextInt(), wild(r, 20)); break;
            case 19: w.cost(wild(r, 2), wild(r, 2), r.nextInt(), wild(r, 50), wild(r, 12)); break;
            case 20: w.better(wild(r, 2), r.nextInt(), wild(r, 50)); break;
            case 21: w.flow(wild(r, 2), wild(r, 2), r.nextInt(), wild(r, 50)); break;
            case 22: w.touch(wild(r, 2), wild(r, 2), r.nextInt(), wild(r, 9), wild(r, 9), wild(r, 9)); break;
            case 23: w.slack(wild(r, 2), wild(r, 2), r.nextInt(), wild(r, 50), wild(r, 12)); break;
            case 24: w.opened(wild(r, 2), wild(r, 2), r.nextInt(), wild(r, 50)); break;
            case 25: w.fits(wild(r, 2), wild(r, 2), r.nextInt()); break;
            case 26: case 27: w.hat(wild(r, 7), wild(r, 15), wild(r, 5)); break;
            case 28: w.match(wild(r, 7), wild(r, 20), wild(r, 6)); break;
            case 29: w.worth(wild(r, 7), wild(r, 20)); break;
            case 30: w.track(wild(r, 7), wild(r, 6), wild(r, 99), wild(r, 7)); break;
            case 31: w.habit(wild(r, 8), wild(r, 4), wild(r, 6), wild(r, 6), wild(r, 6), wild(r, 4)); break;
            case 32: w.count(wild(r, 10)); break;
            case 33: w.image(wild(r, 3)); break;
            case 34: w.again(wild(r, 3)); break;
            case 35: if (r.nextInt(20) == 0) { w.dark(); } break;
            default: tellText(w, r, texts[r.nextInt(texts.length)]); break;
        }
    }

    private static void tellText(PavementWalk walk, Random random, byte[] text) {
        if (random.nextInt(4) > 0) {
            walk.end(0);
        }
        int room = 0;
        for (int at = 0; at < text.length && room >= 0; at += 20) {
            room = walk.feed(number(text, at), number(text, at + 4), number(text, at + 8),
                number(text, at + 12), number(text, at + 16));
        }
        walk.end(room - (20 - text.length % 20) % 20);
        int at = random.nextInt(3) > 0 ? -1 : wild(random, 3);
        if (text.length > 3 && text[0] == 's') {
            walk.passage(at);
        } else {
            walk.law(at);
        }
    }

    private static int number(byte[] text, int at) {
        int number = 0;
        for (int i = at; i < at + 4; i++) {
            number = number << 8 | (i < text.length ? text[i] & 255 : 32);
        }
        return number;
    }

    /** Two objects told the same, one of them asked much in between, answer the same. */
    private static void queriesTellNothing() {
        Random random = new Random(12);
        for (int k = 0; k < 100; k++) {
            Model.Place place = Model.randomPlace(random, 12);
            Model.Law law = Model.randomLaw(random);
            int seed = random.nextInt();
            PavementWalk asked = Checks.running(place.text, law.text, seed);
            PavementWalk left = Checks.running(place.text, law.text, seed);
            for (int t = 0; t < 6; t++) {
                for (int w = 0; w < 12; w += 5) {
                    asked.finds(w, 3);
                    asked.does(w);
                    asked.slack(0, 0, 5, 9, w);
                    asked.cost(0, 0, 5, 9, w);
                }
                asked.pillar(0, 0, 5, 9);
                asked.two(0, 0, 5, 0);
                asked.fits(0, 0, 5);
                CHECKS.due("go", asked.go(3), left.go(3));
                for (int what = 0; what < 7; what++) {
                    CHECKS.due("state " + what, asked.state(what), left.state(what));
                    CHECKS.due("ran " + what, asked.ran(t, what), left.ran(t, what));
                }
            }
        }
    }
}
