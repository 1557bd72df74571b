/** Promises 4 to 9 and 34: texts of PASSAGES and LAWS, their FAULTS, what is told. */
final class TextTest {
    private static final Checks CHECKS = new Checks();
    private static final String TWELVE = twelveWalkers();

    public static void main(String[] args) {
        passagesHaveNumbers();
        lawsHaveNumbers();
        tapeIsTaken();
        textsBeginAnew();
        walkersAreTold();
        laterLinesStrike();
        friendsPart();
        passageFaults();
        passageNumberFaults();
        tooManyInPassage();
        takenSquares();
        firstFaultByPlace();
        lawTexts();
        lawFaults();
        tooManyInLaw();
        blanksAndTokens();
        askedWrongly();
        CHECKS.finish("TextTest");
    }

    private static String twelveWalkers() {
        StringBuilder text = new StringBuilder("size 16 6;");
        for (int w = 0; w < 12; w++) {
            text.append("walker ").append(w).append(" 0 east;");
        }
        return text.toString();
    }

    /** A text that is sound, as a PASSAGE. */
    private static void sound(String text) {
        PavementWalk walk = new PavementWalk();
        CHECKS.due(text, Checks.passage(walk, text), 0);
        CHECKS.due(text + " fault", walk.fault(0), 0);
        CHECKS.due(text + " place", walk.fault(1), -1);
        CHECKS.due(text + " count", walk.count(0), 1);
    }

    /** A PASSAGE's text with a FAULT. */
    private static void bad(String text, int fault, int place) {
        PavementWalk walk = new PavementWalk();
        CHECKS.due(text, Checks.passage(walk, text), -1);
        CHECKS.due(text + " fault", walk.fault(0), fault);
        CHECKS.due(text + " place", walk.fault(1), place);
        CHECKS.due(text + " count", walk.count(0), 0);
        CHECKS.due(text + " tape", walk.end(1), -1);
    }

    private static void soundLaw(String text, int rules) {
        PavementWalk walk = new PavementWalk();
        CHECKS.due(text, Checks.law(walk, text), 0);
        CHECKS.due(text + " fault", walk.fault(0), 0);
        CHECKS.due(text + " place", walk.fault(1), -1);
        CHECKS.due(text + " rules", walk.rules(0), rules);
    }

    private static void badLaw(String text, int fault, int place) {
        PavementWalk walk = new PavementWalk();
        CHECKS.due(text, Checks.law(walk, text), -1);
        CHECKS.due(text + " fault", walk.fault(0), fault);
        CHECKS.due(text + " place", walk.fault(1), place);
        CHECKS.due(text + " count", walk.count(1), 0);
        CHECKS.due(text + " tape", walk.end(1), -1);
    }

    private static void passagesHaveNumbers() {
        PavementWalk walk = new PavementWalk();
        for (int k = 0; k < 3; k++) {
            CHECKS.due("passage " + k, Checks.passage(walk, "size " + (k + 2) + " 1;"), k);
            CHECKS.due("count", walk.count(0), k + 1);
        }
        CHECKS.due("a 4th", Checks.passage(walk, "size x"), -2);
        CHECKS.due("a 4th: fault", walk.fault(0), 0);
        CHECKS.due("a 4th: place", walk.fault(1), -1);
        CHECKS.due("a 4th: tape", walk.end(1), -1);
        Checks.tell(walk, "size 9 6; wall 8 5;");
        CHECKS.due("in place of 1", walk.passage(1), 1);
        CHECKS.due("its length", walk.about(1, 0), 9);
        CHECKS.due("its walls", walk.about(1, 3), 1);
        CHECKS.due("length of 0", walk.about(0, 0), 2);
        CHECKS.due("length of 2", walk.about(2, 0), 4);
        Checks.tell(walk, "size 9 7;");
        CHECKS.due("a fault in place of 1", walk.passage(1), -1);
        CHECKS.due("1 stays", walk.about(1, 1), 6);
        Checks.tell(walk, "size 9 5;");
        CHECKS.due("in place of 3", walk.passage(3), -2);
        CHECKS.due("fault", walk.fault(0), 0);
        CHECKS.due("in place of -2", walk.passage(-2), -2);
        CHECKS.due("count", walk.count(0), 3);
        PavementWalk none = new PavementWalk();
        Checks.tell(none, "size 9 5;");
        CHECKS.due("in place of 0 without", none.passage(0), -2);
        CHECKS.due("its tape", none.end(1), -1);
    }

    private static void lawsHaveNumbers() {
        PavementWalk walk = new PavementWalk();
        for (int k = 0; k < 3; k++) {
            CHECKS.due("law " + k, Checks.law(walk, "go;wait;".substring(0, k == 0 ? 3 : 8)), k);
            CHECKS.due("count", walk.count(1), k + 1);
        }
        CHECKS.due("a 4th", Checks.law(walk, "!"), -2);
        CHECKS.due("a 4th: fault", walk.fault(0), 0);
        CHECKS.due("a 4th: place", walk.fault(1), -1);
        CHECKS.due("a 4th: tape", walk.end(1), -1);
        Checks.tell(walk, "left;left;lot;");
        CHECKS.due("in place of 2", walk.law(2), 2);
        CHECKS.due("rules of 2", walk.rules(2), 3);
        CHECKS.due("rules of 0", walk.rules(0), 1);
        CHECKS.due("rules of 1", walk.rules(1), 2);
        Checks.tell(walk, "left;lef;lot;");
        CHECKS.due("a fault in place of 2", walk.law(2), -1);
        CHECKS.due("rules of 2", walk.rules(2), 3);
        CHECKS.due("in place of 3", walk.law(3), -2);
        CHECKS.due("fault behind it", walk.fault(0), 0);
        CHECKS.due("rules of 3", walk.rules(3), -1);
        CHECKS.due("rules of -1", walk.rules(-1), -1);
    }

    private static void tapeIsTaken() {
        PavementWalk walk = new PavementWalk();
        Checks.tell(walk, "size 4 2;");
        Checks.tell(walk, " wall 1 1;");
        CHECKS.due("two feeds are one text", walk.passage(-1), 0);
        CHECKS.due("walls", walk.about(0, 3), 1);
        CHECKS.due("nothing left", walk.passage(-1), -1);
        CHECKS.due("fault", walk.fault(0), 1);
        CHECKS.due("place", walk.fault(1), 0);
        CHECKS.due("an empty law", walk.law(-1), 0);
        CHECKS.due("its rules", walk.rules(0), 0);
        CHECKS.due("fault", walk.fault(0), 0);
        CHECKS.due("place", walk.fault(1), -1);
        CHECKS.due("fault(2)", walk.fault(2), -1);
        CHECKS.due("fault(-1)", walk.fault(-1), -1);
    }

    /** Nothing of a text is left when another one is told. */
    private static void textsBeginAnew() {
        PavementWalk walk = new PavementWalk();
        Checks.passage(walk, "size 9 5;wall 1 1;wall 3 2;walker 2 2 east;pace 0 3;late 0 2;haste 0 7;"
            + "hand 0 left;walker 2 3 east;friends 0 1;");
        CHECKS.due("walls at the same places", Checks.passage(walk, "size 9 5;wall 1 1;walker 3 2 west;"), 1);
        CHECKS.due("walls of 0", walk.about(0, 3), 2);
        CHECKS.due("walls of 1", walk.about(1, 3), 1);
        CHECKS.due("WALKERS of 1", walk.about(1, 2), 1);
        int[] due = {3, 2, 0, 1, 0, 0, 0, -1};
        for (int what = 0; what < due.length; what++) {
            CHECKS.due("walker of 1, " + what, walk.walker(1, 0, what), due[what]);
        }
        Checks.passage(walk, "size 9 5;wall 1 3;wall 1 1;wall 1 1;");
        Checks.tell(walk, "size 9 5;");
        CHECKS.due("in place of 5", walk.passage(5), -2);
        CHECKS.due("no FAULT", walk.fault(0), 0);
        CHECKS.due("no place", walk.fault(1), -1);
        Checks.passage(walk, "size 9 5;wall 1 1;wall 4 4;");
        CHECKS.due("walls behind a FAULT", walk.about(2, 3), 2);
        Checks.law(walk, "if ahead<3:go;if");
        CHECKS.due("place", walk.fault(1), 16);
        CHECKS.due("law in place of 2", walk.law(2), -2);
        CHECKS.due("no place", walk.fault(1), -1);
        CHECKS.due("a LAW behind a FAULT", Checks.law(walk, "wait;"), 0);
        CHECKS.due("its RULES", walk.rules(0), 1);
    }

    private static void due(PavementWalk walk, int w, int... due) {
        for (int what = 0; what < due.length; what++) {
            CHECKS.due("walker " + w + " " + what, walk.walker(0, w, what), due[what]);
        }
    }

    private static void walkersAreTold() {
        PavementWalk walk = new PavementWalk();
        Checks.passage(walk, "size 16 6; wall 3 3; walker 15 5 west; walker 0 0 east;"
            + "pace 1 4; late 1 3; haste 1 9; hand 1 left; hand 0 right; friends 1 0;");
        due(walk, 0, 15, 5, 0, 1, 0, 0, 1, 1, -2);
        due(walk, 1, 0, 0, 1, 4, 3, 9, 2, 0, -2);
        due(walk, 2, -2);
        int[] about = {16, 6, 2, 1, -1};
        for (int what = 0; what < about.length; what++) {
            CHECKS.due("about " + what, walk.about(0, what), about[what]);
        }
        Checks.passage(walk, "size 2 1; walker 1 0 west;");
        CHECKS.due("no hand", walk.walker(1, 0, 6), 0);
        CHECKS.due("no friend", walk.walker(1, 0, 7), -1);
    }

    private static void laterLinesStrike() {
        PavementWalk walk = new PavementWalk();
        Checks.passage(walk, "size 5 5;walker 1 1 east;pace 0 2;late 0 1;haste 0 5;hand 0 left;"
            + "pace 0 3;late 0 0;haste 0 0;hand 0 right;pace 0 2;");
        due(walk, 0, 1, 1, 1, 2, 0, 0, 1, -1);
    }

    private static void friendsPart() {
        PavementWalk walk = new PavementWalk();
        Checks.passage(walk, "size 5 5;walker 0 0 east;walker 0 1 east;walker 0 2 east;"
            + "walker 0 3 east;friends 0 1;friends 2 3;friends 1 2;");
        int[] due = {-1, 2, 1, -1};
        for (int w = 0; w < 4; w++) {
            CHECKS.due("friend of " + w, walk.walker(0, w, 7), due[w]);
        }
        Checks.passage(walk, "size 5 5;walker 0 0 east;walker 0 1 east;friends 0 1;friends 1 0;");
        CHECKS.due("friend of 0", walk.walker(1, 0, 7), 1);
        CHECKS.due("friend of 1", walk.walker(1, 1, 7), 0);
    }

    private static void passageFaults() {
        bad("", 1, 0);
        bad("   \n ", 1, 5);
        bad("wall 0 0;", 1, 0);
        bad("sizes 3 3;", 1, 0);
        bad("siz 3 3;", 1, 0);
        bad("size", 1, 4);
        bad("size 3", 1, 6);
        bad("size 3 3", 1, 8);
        bad("size 3 3  ", 1, 10);
        bad("size 3 3;;", 1, 9);
        bad("size 3;", 1, 6);
        bad("size 3 3 3;", 1, 9);
        bad("size 3 3: ", 1, 8);
        bad("size 3 3;go;", 1, 9);
        bad("size 3 3;size 3 3;", 1, 9);
        bad("size 3 3;walker 0 0 ea", 1, 20);
        bad("size 3 3;walker 0 0;", 1, 19);
        bad("size 3 3;walker 0 0 right;", 1, 20);
        bad("size 3 3;walker 0 0 east;hand 0 east;", 1, 32);
        bad("size 3 3;walker 0 0 east;hand 0 0;", 1, 32);
        bad("size 3 3;walker 0 0 east;friends 0;", 1, 34);
        bad("size 3 3;walker 0 0 east;pace 0 2 2;", 1, 34);
        bad("size 3 3;wall 1 1", 1, 17);
        bad("size 3 3;wall 1 1 !", 1, 18);
        bad("size 3 3!;", 1, 8);
        bad("size 3 3;Wall 1 1;", 1, 9);
        bad("size 3 3;\twall 1 1;", 1, 9);
        bad("size 3 3;\rwall 1 1;", 1, 9);
        bad("size 3 3;wall 1 1;\u00e9", 1, 18);
        bad("size 1000 3;", 1, 5);
        bad("size 0003 3;", 1, 5);
        bad("size 3 3;wall 0 12345678901234567890;", 1, 16);
        bad("size -3 3;", 1, 5);
        bad("size x 3;", 1, 5);
        bad("size 3 x;", 1, 7);
        bad("size ; 3;", 1, 5);
        bad("12 3 3;", 1, 0);
        bad("size 3 3;12;", 1, 9);
        bad("size 3 3;wall x 1;", 1, 14);
    }

    private static void passageNumberFaults() {
        sound("size 2 1;");
        sound("size 16 6;");
        bad("size 1 1;", 2, 5);
        bad("size 17 1;", 2, 5);
        bad("size 0 1;", 2, 5);
        bad("size 2 0;", 2, 7);
        bad("size 2 7;", 2, 7);
        bad("size 999 999;", 2, 5);
        sound("size 3 2;wall 2 1;");
        bad("size 3 2;wall 3 1;", 2, 14);
        bad("size 3 2;wall 2 2;", 2, 16);
        bad("size 3 2;wall 3 2;", 2, 14);
        bad("size 3 2;walker 3 1 east;", 2, 16);
        bad("size 3 2;walker 2 2 east;", 2, 18);
        bad("size 3 2;pace 0 1;", 2, 14);
        bad("size 3 2;pace 0 1;walker 0 0 east;", 2, 14);
        String one = "size 3 2;walker 0 0 east;";
        bad(one + "pace 1 1;", 2, 30);
        bad(one + "pace 0 0;", 2, 32);
        bad(one + "pace 0 5;", 2, 32);
        sound(one + "pace 0 1;pace 0 4;");
        bad(one + "late 0 4;", 2, 32);
        sound(one + "late 0 0;late 0 3;");
        bad(one + "haste 0 10;", 2, 33);
        sound(one + "haste 0 0;haste 0 9;");
        bad(one + "hand 1 left;", 2, 30);
        bad(one + "friends 0 0;", 2, 35);
        bad(one + "friends 0 1;", 2, 35);
        bad(one + "friends 1 0;", 2, 33);
        bad(one + "walker 1 0 west;friends 1 1;", 2, 51);
        sound(one + "walker 1 0 west;friends 1 0;");
    }

    private static void tooManyInPassage() {
        sound(TWELVE);
        bad(TWELVE + "walker 12 0 east;", 3, TWELVE.length());
        bad(TWELVE + "walker 16 0 east;", 3, TWELVE.length());
        bad(TWELVE + "walker 0 0 east;", 3, TWELVE.length());
        String forty = "size 2 2;walker 0 0 west;" + "late 0 1;".repeat(39);
        sound(forty);
        bad(forty + "wall 1 1;", 3, forty.length());
        bad(forty + "\n late 7 7;", 3, forty.length() + 2);
        bad(forty + "late 0 1", 1, forty.length() + 8);
        bad(forty + "go", 1, forty.length());
    }

    private static void takenSquares() {
        bad("size 3 3;wall 1 1;wall 1 1;", 4, 23);
        bad("size 3 3;wall 1 1;walker 1 1 east;", 4, 25);
        bad("size 3 3;walker 1 1 east;walker 1 1 west;", 4, 32);
        bad("size 3 3;walker 1 1 east;wall 1 1;", 4, 30);
        bad("size 3 3;wall 0 0;wall 0 3;", 2, 25);
        sound("size 3 3;wall 1 1;wall 1 2;walker 2 1 east;");
    }

    private static void firstFaultByPlace() {
        bad("size 1 1;wall 9 9;", 2, 5);
        bad("size 3 3;wall 1 1;wall 1 1;wall 9 1;", 4, 23);
        bad("size 3 3;wall 1 9;wall 1 1;wall 1 1;", 2, 16);
        bad("size 1 9;wall 9 9; oh", 1, 19);
        bad("size 3 3;wall 1 1;wall 1 1;?", 1, 27);
        bad(TWELVE + "pace 0 9;walker 12 0 east;", 2, TWELVE.length() + 7);
        bad(TWELVE + "walker 12 0 east;pace 0 9;", 3, TWELVE.length());
    }

    private static void lawTexts() {
        soundLaw("", 0);
        soundLaw(" \n ", 0);
        soundLaw("go;right;left;hand;lot;wait;", 6);
        soundLaw("if blocked:go;if not facing and not parted:wait;", 2);
        soundLaw("if ahead<1 and soon>2 and near=3 and right<999:right;", 1);
        soundLaw("if left > 0 and waited = 99 and haste < 9 and not crowd > 3 : left ;", 1);
        soundLaw("go;".repeat(16), 16);
    }

    private static void lawFaults() {
        badLaw("go", 1, 2);
        badLaw("go go", 1, 3);
        badLaw("stay;", 1, 0);
        badLaw(";", 1, 0);
        badLaw("if", 1, 2);
        badLaw("if go;", 1, 3);
        badLaw("if blocked go;", 1, 11);
        badLaw("if blocked and:go;", 1, 14);
        badLaw("if blocked<3:go;", 1, 10);
        badLaw("if not not blocked:go;", 1, 7);
        badLaw("if ahead:go;", 1, 8);
        badLaw("if ahead<:go;", 1, 9);
        badLaw("if ahead<=3:go;", 1, 9);
        badLaw("if ahead<3;", 1, 10);
        badLaw("if ahead<3:", 1, 11);
        badLaw("if ahead<1000:go;", 1, 9);
        badLaw("if hand:go;", 1, 3);
        badLaw("if blocked:if facing:go;", 1, 11);
        badLaw("not blocked:go;", 1, 0);
        badLaw("and blocked:go;", 1, 0);
        badLaw("if and blocked:go;", 1, 3);
        badLaw("go;3;", 1, 3);
        badLaw("go;size 3 3;", 1, 3);
        badLaw("if 3:go;", 1, 3);
        badLaw("if ahead 3:go;", 1, 9);
        badLaw("if ahead<x:go;", 1, 9);
    }

    private static void tooManyInLaw() {
        badLaw("go;".repeat(17), 3, 48);
        badLaw("go;".repeat(16) + " if blocked:go;", 3, 49);
        badLaw("go;".repeat(16) + "if go;", 1, 51);
        String four = "if blocked and blocked and facing and ahead<3";
        soundLaw(four + ":go;", 1);
        badLaw(four + " and not parted:go;", 3, four.length() + 5);
        badLaw(four + " and ahead<3 and facing:go;", 3, four.length() + 5);
        badLaw(four + " and ahead<3 and facing:no;", 1, four.length() + 24);
        badLaw(four + " and facing:go;" + "go;".repeat(16), 3, four.length() + 5);
    }

    private static void blanksAndTokens() {
        sound("size3 3;wall1 1;walker 2 2west;pace0 2;");
        sound("\n\n size\n003\n 03 ; wall 1 1 ; \n");
        soundLaw("ifblocked:go;".replace("ifb", "if b"), 1);
        badLaw("ifblocked:go;", 1, 0);
        soundLaw("if ahead<3and soon>2:go;", 1);
        bad("size 33;", 1, 7);
    }

    private static void askedWrongly() {
        PavementWalk walk = Checks.told("size 3 3;walker 0 0 east;", "go;");
        CHECKS.due("about(0, -1)", walk.about(0, -1), -1);
        CHECKS.due("about(0, 4)", walk.about(0, 4), -1);
        CHECKS.due("about(1, 0)", walk.about(1, 0), -1);
        CHECKS.due("about(-1, 0)", walk.about(-1, 0), -1);
        CHECKS.due("walker(1, 0, 0)", walk.walker(1, 0, 0), -2);
        CHECKS.due("walker(-1, 0, 0)", walk.walker(-1, 0, 0), -2);
        CHECKS.due("walker(0, 1, 0)", walk.walker(0, 1, 0), -2);
        CHECKS.due("walker(0, -1, 0)", walk.walker(0, -1, 0), -2);
        CHECKS.due("walker(0, 0, -1)", walk.walker(0, 0, -1), -2);
        CHECKS.due("walker(0, 0, 8)", walk.walker(0, 0, 8), -2);
        CHECKS.due("rules(1)", walk.rules(1), -1);
        CHECKS.due("count(-1)", walk.count(-1), -2);
        CHECKS.due("count(10)", walk.count(10), -2);
        CHECKS.due("count(9)", walk.count(9), 0);
        CHECKS.due("count(0)", walk.count(0), 1);
        CHECKS.due("count(1)", walk.count(1), 1);
    }
}
