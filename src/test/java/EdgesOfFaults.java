/** The FAULTS of Term 1: each at its least and at its place, and which one comes first. */
final class EdgesOfFaults {
    private static final int NONE = PavementWalk.NONE;

    private final Edges edges;

    EdgesOfFaults(Edges edges) {
        this.edges = edges;
    }

    void test() {
        ends();
        longRows();
        noPassage();
        noLaw();
        badSizes();
        badSquares();
        badWalkers();
        badFriends();
        badTraits();
        numbersOfTests();
        tooManyWalkers();
        tooManyLines();
        tooManyRules();
        tooManyTests();
        taken();
        firstByPlace();
    }

    private void passage(String text, int fault, int place) {
        PavementWalk walk = new PavementWalk();
        edges.due(text, Checks.passage(walk, text), fault == 0 ? 0 : NONE);
        edges.dueRow(text + ", fault", walk::fault, fault, place);
        edges.due(text + ", PASSAGES", walk.count(0), fault == 0 ? 1 : 0);
    }

    private void sound(String text) {
        passage(text, 0, NONE);
    }

    private void law(String text, int fault, int place) {
        PavementWalk walk = new PavementWalk();
        edges.due(text, Checks.law(walk, text), fault == 0 ? 0 : NONE);
        edges.dueRow(text + ", fault", walk::fault, fault, place);
        edges.due(text + ", LAWS", walk.count(1), fault == 0 ? 1 : 0);
    }

    private void ends() {
        edges.term("with places (a token's first byte; the end's)");
        passage("", 1, 0);
        passage("\n \n", 1, 3);
        String sound = "size 3 2;wall 0 0;walker 1 1 west;hand 0 left;";
        for (int to = 0; to < sound.length(); to++) {
            // Cut within a token: it is a word, or a NUMBER, too; a text ends behind each ';' alone.
            String cut = sound.substring(0, to);
            if (cut.endsWith(";")) {
                passage(cut, 0, NONE);
            } else if (to < 4) {
                passage(cut, 1, 0);
            } else if (cut.endsWith(" ") || cut.matches(".*[0-9]") || cut.equals("size")
                || cut.matches(".*;(wall|walker|hand)") || cut.matches(".*(left|west)")) {
                passage(cut, 1, to);
            } else {
                passage(cut, 1, cut.split("[a-z]+$")[0].length());
            }
        }
        law("go", 1, 2);
        law("go ", 1, 3);
        law("if", 1, 2);
        law("if not", 1, 6);
        law("if not parted", 1, 13);
        law("if near", 1, 7);
        law("if near<", 1, 8);
        law("if near<3", 1, 9);
        law("if near<3 and", 1, 13);
        law("if near<3:", 1, 10);
        law("if near<3:go", 1, 12);
        law("if near<3:go;", 0, NONE);
    }

    private void longRows() {
        edges.term("1 the first byte or token with which no text goes on (a longer row of digits is no token).");
        passage("size 016 1;", 0, NONE);
        passage("size 0016 1;", 1, 5);
        passage("size 16 0001;", 1, 8);
        passage("size 3 3;wall 00000000000000000001 1;", 1, 14);
        passage("size 3 3;wall 99999999999999999999 1;", 1, 14);
        law("if near<999:go;", 0, NONE);
        law("if near<1000:go;", 1, 8);
        law("if near<4294967297:go;", 1, 8);
        law("if near<0000:go;", 1, 8);
        law("if near<000:go;", 0, NONE);
    }

    private void noPassage() {
        edges.term("1 the first byte or token with which no text goes on");
        passage("go;", 1, 0);
        passage(";", 1, 0);
        passage("3", 1, 0);
        passage("size size 3;", 1, 5);
        passage("size 3 size;", 1, 7);
        passage("size 3 3 wall 1 1;", 1, 9);
        passage("size 3 3;size 4 4;", 1, 9);
        passage("size 3 3;;", 1, 9);
        passage("size 3 3;wall;", 1, 13);
        passage("size 3 3;wall 1;", 1, 15);
        passage("size 3 3;wall 1 1 1;", 1, 18);
        passage("size 3 3;wall 1 1 east;", 1, 18);
        passage("size 3 3;walker 0 0 north;", 1, 20);
        passage("size 3 3;walker 0 0 east west;", 1, 25);
        passage("size 3 3;walker 0 0 east:", 1, 24);
        passage("size 3 3;walker 0 0 east;pace 0;", 1, 31);
        passage("size 3 3;walker 0 0 east;pace 0 left;", 1, 32);
        passage("size 3 3;walker 0 0 east;hand left 0;", 1, 30);
        passage("size 3 3;walker 0 0 east;hand 0 none;", 1, 32);
        passage("size 3 3;walker 0 0 east;friend 0 0;", 1, 25);
        passage("size 3 3;\u0000", 1, 9);
        passage("size 3 3;\u007f", 1, 9);
        passage("size 3 3;\u0080", 1, 9);
        passage("size 3 3;\u00ff", 1, 9);
        passage("size 3 3;wall 1 1;!!", 1, 18);
    }

    private void noLaw() {
        edges.term("1 the first byte or token with which no text goes on");
        law("size 3 3;", 1, 0);
        law("run;", 1, 0);
        law("go;go go;", 1, 6);
        law("go;;", 1, 3);
        law("if:go;", 1, 2);
        law("if <3:go;", 1, 3);
        law("if not =3:go;", 1, 7);
        law("if not:go;", 1, 6);
        law("if not not parted:go;", 1, 7);
        law("if lot:go;", 1, 3);
        law("if blocked=1:go;", 1, 10);
        law("if facing<1:go;", 1, 9);
        law("if parted>0:go;", 1, 9);
        for (String find : new String[] {"ahead", "soon", "near", "right", "left", "waited", "haste", "crowd"}) {
            law("if " + find + ":go;", 1, 3 + find.length());
            law("if " + find + "<:go;", 1, 4 + find.length());
            law("if " + find + "<=3:go;", 1, 4 + find.length());
            law("if " + find + "<<3:go;", 1, 4 + find.length());
            law("if " + find + "<right:go;", 1, 4 + find.length());
            law("if " + find + ":3:go;", 1, 3 + find.length());
            law("if " + find + "=3 go;", 1, 6 + find.length());
            law("if " + find + "=3;go;", 1, 5 + find.length());
        }
        law("if parted:if parted:go;", 1, 10);
        law("if parted or facing:go;", 1, 10);
        law("if parted and:go;", 1, 13);
        law("if parted and and facing:go;", 1, 14);
        law("if parted:;", 1, 10);
        law("if parted:facing;", 1, 10);
        law("if parted:go:", 1, 12);
        law("and parted:go;", 1, 0);
        law("not parted:go;", 1, 0);
    }

    private void badSizes() {
        edges.term("2 a NUMBER that can't be (LENGTH, WIDTH");
        passage("size 0 1;", 2, 5);
        passage("size 1 1;", 2, 5);
        sound("size 2 1;");
        sound("size 16 6;");
        passage("size 17 6;", 2, 5);
        passage("size 999 6;", 2, 5);
        passage("size 2 0;", 2, 7);
        passage("size 16 7;", 2, 8);
        passage("size 16 999;", 2, 8);
        passage("size 1 7;", 2, 5);
    }

    private void badSquares() {
        edges.term("SQUARES that there are");
        for (String word : new String[] {"wall ", "walker "}) {
            String way = word.equals("wall ") ? ";" : " west;";
            int x = 9 + word.length();
            sound("size 5 3;" + word + "4 2" + way);
            sound("size 5 3;" + word + "0 0" + way);
            passage("size 5 3;" + word + "5 2" + way, 2, x);
            passage("size 5 3;" + word + "4 3" + way, 2, x + 2);
            passage("size 5 3;" + word + "5 3" + way, 2, x);
            passage("size 5 3;" + word + "3 4" + way, 2, x + 2);
            passage("size 5 3;" + word + "999 0" + way, 2, x);
            passage("size 5 3;" + word + "0 999" + way, 2, x + 2);
        }
    }

    private void badWalkers() {
        edges.term("WALKERS told ahead of it");
        String[] lines = {"pace # 1;", "late # 1;", "haste # 1;", "hand # left;", "friends # 0;"};
        for (String line : lines) {
            int at = line.indexOf('#');
            passage("size 5 3;" + line.replace('#', '0') + "walker 0 0 east;walker 1 0 east;", 2, 9 + at);
            String two = "size 5 3;walker 0 0 east;walker 1 0 east;";
            sound(two + line.replace('#', '1'));
            passage(two + line.replace('#', '2'), 2, two.length() + at);
            passage(two + line.replace("#", "999"), 2, two.length() + at);
            passage(two + line.replace('#', '2') + "walker 2 0 east;", 2, two.length() + at);
        }
        StringBuilder twelve = new StringBuilder("size 16 6;");
        for (int w = 0; w < 12; w++) {
            twelve.append("walker ").append(w).append(" 0 east;");
        }
        sound(twelve + "pace 11 2;friends 11 10;");
        passage(twelve + "pace 12 2;", 2, twelve.length() + 5);
    }

    private void badFriends() {
        edges.term("the second one of friends another one than the first");
        String two = "size 5 3;walker 0 0 east;walker 1 0 east;";
        sound(two + "friends 0 1;");
        sound(two + "friends 1 0;");
        passage(two + "friends 0 0;", 2, two.length() + 10);
        passage(two + "friends 1 1;", 2, two.length() + 10);
        passage(two + "friends 0 2;", 2, two.length() + 10);
        passage(two + "friends 2 2;", 2, two.length() + 8);
        passage("size 5 3;friends 0 0;", 2, 17);
    }

    private void badTraits() {
        edges.term("the others as above");
        String one = "size 5 3;walker 0 0 east;";
        passage(one + "pace 0 0;", 2, 32);
        sound(one + "pace 0 1;");
        sound(one + "pace 0 4;");
        passage(one + "pace 0 5;", 2, 32);
        passage(one + "pace 0 999;", 2, 32);
        sound(one + "late 0 0;");
        sound(one + "late 0 3;");
        passage(one + "late 0 4;", 2, 32);
        sound(one + "haste 0 0;");
        sound(one + "haste 0 9;");
        passage(one + "haste 0 10;", 2, 33);
        passage(one + "pace 1 5;", 2, 30);
    }

    /** No bound is told for these: each NUMBER can be. */
    private void numbersOfTests() {
        edges.term("('<' | '>' | '=') NUMBER");
        for (String find : new String[] {"ahead", "soon", "near", "right", "left", "waited", "haste", "crowd"}) {
            law("if " + find + "<0:go;", 0, NONE);
            law("if " + find + ">999:go;", 0, NONE);
            law("if not " + find + "=100:go;", 0, NONE);
        }
    }

    private void tooManyWalkers() {
        edges.term("3 a 13th walker");
        StringBuilder text = new StringBuilder("size 16 6;");
        for (int w = 0; w < 12; w++) {
            text.append("walker ").append(w).append(" 0 east;");
        }
        sound(text.toString());
        passage(text + "walker 12 0 east;", 3, text.length());
        passage(text + " walker 15 5 west;", 3, text.length() + 1);
        passage(text + "walker 0 0 east;", 3, text.length());
        passage(text + "walker 99 99 east;", 3, text.length());
        sound(text + "wall 12 0;");
    }

    private void tooManyLines() {
        edges.term("a 41st LINE");
        String forty = "size 9 3;walker 0 0 east;" + "late 0 1;".repeat(39);
        sound(forty);
        passage(forty + "late 0 1;", 3, forty.length());
        passage(forty + "\nwall 1 1;", 3, forty.length() + 1);
        passage(forty + "wall 9 9;", 3, forty.length());
        passage(forty + "wall 0 0;", 3, forty.length());
        passage(forty + "late 9 9;" + "late 0 1;", 3, forty.length());
        passage(forty + ";", 1, forty.length());
    }

    private void tooManyRules() {
        edges.term("a 17th RULE");
        String sixteen = "go;".repeat(16);
        law(sixteen, 0, NONE);
        law(sixteen + "go;", 3, 48);
        law(sixteen + " if blocked:go;", 3, 49);
        law(sixteen + "go;go;go;", 3, 48);
        law(sixteen + "go", 1, 50);
    }

    private void tooManyTests() {
        edges.term("a 5th TEST of a RULE, at its first token");
        String four = "if near<1 and blocked and not facing and not near=2";
        law(four + ":go;", 0, NONE);
        law(four + " and parted:go;", 3, 56);
        law(four + " and not parted:go;", 3, 56);
        law(four + " and near<3:go;", 3, 56);
        law(four + " and parted and parted:go;", 3, 56);
        law("go;" + four + " and parted:go;", 3, 59);
        law(four + " and parted;", 1, 62);
        law(four + ":go;" + four + ":go;", 0, NONE);
    }

    private void taken() {
        edges.term("4 a wall or walker on a SQUARE where one is already, at its x.");
        passage("size 4 4;wall 3 3;wall 3 3;", 4, 23);
        passage("size 4 4;wall 3 3;walker 3 3 east;", 4, 25);
        passage("size 4 4;walker 3 3 east;wall 3 3;", 4, 30);
        passage("size 4 4;walker 3 3 east;walker 3 3 west;", 4, 32);
        passage("size 4 4;walker 0 0 east;wall 1 1;wall 0 0;", 4, 39);
        sound("size 4 4;wall 3 3;wall 3 2;walker 2 3 east;walker 2 2 west;");
        sound("size 4 4;wall 2 3;wall 3 2;");
    }

    private void firstByPlace() {
        edges.term("If there is none, the first by place, of one place the least");
        passage("size 3 3;wall 1 1;wall 1 1;wall 3 1;", 4, 23);
        passage("size 3 3;wall 1 1;wall 3 1;wall 1 1;", 2, 23);
        passage("size 1 3;wall 1 1;wall 1 1;", 2, 5);
        passage("size 1 3;wall 1 1;wall 1 1;oh", 1, 27);
        passage("size 3 3;wall 9 1;wall 1 1", 1, 26);
        String late = "size 3 3;walker 0 0 east;" + "late 0 1;".repeat(38);
        passage(late + "late 0 4;late 0 1;wall 1 1;", 2, late.length() + 7);
        passage(late + "wall 0 0;late 0 1;wall 1 1;", 4, late.length() + 5);
        passage(late + "late 0 1;wall 0 0;late 0 4;", 3, late.length() + 9);
        law("if near<1 and near<1 and near<1 and near<1 and near<1:go;" + "go;".repeat(16), 3, 47);
        law("go;".repeat(16) + "if near<1 and near<1 and near<1 and near<1 and near<1:go;", 3, 48);
    }
}
