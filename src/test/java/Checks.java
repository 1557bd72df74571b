import java.nio.charset.StandardCharsets;

/** What the tests share: answers that are due are counted, and texts are fed to the tape. */
final class Checks {
    private int asked;
    private int wrong;

    void due(String call, long got, long want) {
        asked++;
        if (got != want) {
            wrong++;
            System.out.println(call + " answered " + got + ", due is " + want);
        }
    }

    void due(String call, boolean got, boolean want) {
        due(call, got ? 1 : 0, want ? 1 : 0);
    }

    /** Says how it went, and ends with exit code 1 if an answer was wrong. */
    void finish(String name) {
        System.out.println(name + ": " + asked + " answers, " + wrong + " wrong");
        if (wrong != 0 || asked == 0) {
            System.exit(1);
        }
    }

    /** Puts a text behind the tape: twenty bytes at a time, the rest cut off again. */
    static void tell(PavementWalk walk, String text) {
        tell(walk, text.getBytes(StandardCharsets.ISO_8859_1));
    }

    static void tell(PavementWalk walk, byte[] text) {
        int had = 0;
        for (int at = 0; at < text.length; at += 20) {
            int all = walk.feed(number(text, at), number(text, at + 4), number(text, at + 8),
                number(text, at + 12), number(text, at + 16));
            if (all < 0) {
                throw new IllegalStateException("the tape is full at byte " + at);
            }
            had = at == 0 ? all - 20 : had;
        }
        if (text.length > 0 && walk.end(had + text.length) != had + text.length) {
            throw new IllegalStateException("the tape can't be cut");
        }
    }

    private static int number(byte[] text, int at) {
        int number = 0;
        for (int i = at; i < at + 4; i++) {
            number = number << 8 | (i < text.length ? text[i] & 255 : 32);
        }
        return number;
    }

    static int passage(PavementWalk walk, String text) {
        tell(walk, text);
        return walk.passage(PavementWalk.NONE);
    }

    static int law(PavementWalk walk, String text) {
        tell(walk, text);
        return walk.law(PavementWalk.NONE);
    }

    /** A new object with a PASSAGE 0 and a LAW 0. */
    static PavementWalk told(String passage, String law) {
        PavementWalk walk = new PavementWalk();
        if (passage(walk, passage) != 0 || law(walk, law) != 0) {
            throw new IllegalStateException("can't be told: " + passage + " / " + law
                + ": fault " + walk.fault(0) + " at " + walk.fault(1));
        }
        return walk;
    }

    /** The same, with a RUN by a SEED. */
    static PavementWalk running(String passage, String law, int seed) {
        PavementWalk walk = told(passage, law);
        if (!walk.run(0, 0, seed)) {
            throw new IllegalStateException("can't run");
        }
        return walk;
    }
}
