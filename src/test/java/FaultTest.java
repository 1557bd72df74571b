import java.nio.charset.StandardCharsets;
import java.util.Random;

/** Promises 4 to 9 on random texts, sound ones and such with FAULTS, against FaultModel. */
final class FaultTest {
    private static final Checks CHECKS = new Checks();
    private static final int NONE = PavementWalk.NONE;
    private static final String[] PIECES = ("size wall walker pace late haste hand friends east west "
        + "right left if and not blocked facing parted ahead soon near waited crowd go lot wait walk siz "
        + "easter a z : ; ; ; < > = 0 1 2 3 5 9 16 17 99 999 1000 0001 00 007 ! # : ` { / ? A Z - . ,")
        .split(" ");
    /** How often each FAULT was due: a kind that never comes would not be tested. */
    private static final int[] SEEN = new int[5];

    public static void main(String[] args) {
        Random random = new Random(20261120);
        for (int k = 0; k < 20000; k++) {
            boolean law = k % 3 == 0;
            String text = law ? law(random) : passage(random);
            for (int changes = random.nextInt(4) - 1; changes > 0; changes--) {
                text = changed(text, random);
            }
            if (text.length() > 500) {
                continue;
            }
            if (law) {
                checkLaw(text);
            } else {
                checkPassage(text);
            }
        }
        for (int fault = 0; fault < SEEN.length; fault++) {
            CHECKS.due("FAULT " + fault + " came " + SEEN[fault] + " times", SEEN[fault] >= 100, true);
        }
        CHECKS.finish("FaultTest");
    }

    private static PavementWalk fed(String text) {
        PavementWalk walk = new PavementWalk();
        for (int at = 0; at < text.length(); at += 20) {
            byte[] bytes = text.substring(at, Math.min(text.length(), at + 20))
                .getBytes(StandardCharsets.ISO_8859_1);
            Checks.tell(walk, bytes);
        }
        return walk;
    }

    private static void checkPassage(String text) {
        FaultModel due = FaultModel.ofPassage(text);
        PavementWalk walk = fed(text);
        checkFault(text, walk, due, walk.passage(NONE));
        boolean sound = due.fault == 0;
        CHECKS.due(text + ": length", walk.about(0, 0), sound ? due.length : NONE);
        CHECKS.due(text + ": width", walk.about(0, 1), sound ? due.width : NONE);
        CHECKS.due(text + ": walkers", walk.about(0, 2), sound ? due.walkers.size() : NONE);
        CHECKS.due(text + ": walls", walk.about(0, 3), sound ? due.walls : NONE);
        for (int w = 0; sound && w < due.walkers.size(); w++) {
            int[] told = due.walkers.get(w);
            for (int what = 0; what < told.length; what++) {
                CHECKS.due(text + ": walker " + w + " " + what, walk.walker(0, w, what), told[what]);
            }
        }
    }

    private static void checkLaw(String text) {
        FaultModel due = FaultModel.ofLaw(text);
        PavementWalk walk = fed(text);
        checkFault(text, walk, due, walk.law(NONE));
        CHECKS.due(text + ": rules", walk.rules(0), due.fault == 0 ? due.rules : NONE);
    }

    private static void checkFault(String text, PavementWalk walk, FaultModel due, int number) {
        SEEN[due.fault]++;
        CHECKS.due(text + ": its number", number, due.fault == 0 ? 0 : NONE);
        CHECKS.due(text + ": its FAULT", walk.fault(0), due.fault);
        CHECKS.due(text + ": the place", walk.fault(1), due.place);
    }

    // Texts that go on as the document says, with numbers that can't be now and then

    private static String passage(Random random) {
        int slips = random.nextInt(3) == 0 ? 3 : 400;
        int length = random.nextInt(4) == 0 ? random.nextInt(20) : 8 + random.nextInt(9);
        int width = random.nextInt(4) == 0 ? random.nextInt(9) : 4 + random.nextInt(3);
        StringBuilder text = new StringBuilder("size " + length + " " + width + ";");
        int most = random.nextInt(5) == 0 ? 38 + random.nextInt(6) : random.nextInt(20);
        boolean full = random.nextBoolean();
        int walkers = 0;
        for (int line = 0; line < most; line++) {
            int kind = walkers == 0 || full && walkers < 14 ? 1 : random.nextInt(most > 30 ? 60 : 8);
            // Squares in their order seldom meet, so that texts grow long without a FAULT.
            int x = random.nextInt(slips) == 0 ? random.nextInt(20) : line % Math.max(1, length);
            int y = random.nextInt(slips) == 0 ? random.nextInt(8) : line / Math.max(1, length);
            int w = random.nextInt(slips) == 0 ? random.nextInt(14) : random.nextInt(Math.max(1, walkers));
            int far = random.nextInt(slips) == 0 ? 8 : 0;
            text.append(random.nextInt(12) == 0 ? "\n " : "");
            switch (kind) {
                case 0: text.append("wall " + x + " " + y); break;
                case 1:
                    text.append("walker " + x + " " + y + (random.nextBoolean() ? " east" : "west"));
                    walkers++;
                    break;
                case 2: text.append("pace " + w + " " + (1 + random.nextInt(4 + far))); break;
                case 3: text.append("haste " + w + " " + random.nextInt(10 + far)); break;
                case 4: text.append("hand " + w + (random.nextBoolean() ? " right" : "left")); break;
                case 5:
                    int other = (w + 1 + random.nextInt(2)) % Math.max(2, walkers);
                    text.append("friends " + w + " " + other);
                    break;
                default: text.append("late " + w + " " + random.nextInt(4 + far)); break;
            }
            text.append(";");
        }
        return text.toString();
    }

    private static String law(Random random) {
        StringBuilder text = new StringBuilder();
        boolean many = random.nextInt(3) == 0;
        int rules = many ? 14 + random.nextInt(5) : random.nextInt(8);
        for (int rule = 0; rule < rules; rule++) {
            int tests = many ? random.nextInt(8) / 7 : random.nextInt(random.nextInt(6) + 1);
            for (int t = 0; t < tests; t++) {
                int what = random.nextInt(11);
                text.append(t == 0 ? "if " : " and ").append(random.nextInt(3) == 0 ? "not " : "");
                text.append(Model.FINDS[what]);
                if (what < 8) {
                    text.append("<>=".charAt(random.nextInt(3))).append(random.nextInt(1000));
                }
            }
            text.append(tests > 0 ? ":" : "").append(Model.DEEDS[random.nextInt(6)]).append(";");
            text.append(random.nextInt(12) == 0 ? " \n" : "");
        }
        return text.toString();
    }

    /** Cuts, puts in, or changes something anywhere. */
    private static String changed(String text, Random random) {
        int from = random.nextInt(text.length() + 1);
        int to = Math.min(text.length(), from + random.nextInt(8));
        String head = text.substring(0, from);
        switch (random.nextInt(6)) {
            case 0: return head;
            case 1: return head + text.substring(to);
            case 2: return head + (char) random.nextInt(256) + text.substring(Math.min(text.length(), from + 1));
            case 3: return head + " " + PIECES[random.nextInt(PIECES.length)] + " " + text.substring(from);
            case 4: return text.replaceFirst("(?s)(.{" + from + "}[^0-9]*)[0-9]+", "$1" + random.nextInt(21));
            default: return head + PIECES[random.nextInt(PIECES.length)] + text.substring(to);
        }
    }
}
