/** Promises 1 to 3: a new object, letter, larder. */
public final class LettersTest {
    private static final Checks CHECKS = new Checks();

    public static void main(String[] args) {
        newObject();
        letters();
        statements();
        faultsOfLetters();
        faultsOfSense();
        room();
        faultChangesNothing();
        CHECKS.end();
    }

    private static void due(String call, long got, long want) {
        CHECKS.due(call, got, want);
    }

    private static void newObject() {
        LarderAges x = new LarderAges();
        int[] counts = {0, 0, 0, 3, 0, 0, 0, 0};
        for (int what = 0; what < counts.length; what++) due("new: count(" + what + ")", x.count(what), counts[what]);
        for (int what = 11; what <= 16; what++) due("new: count(" + what + ")", x.count(what), 0);
        due("new: known()", x.known(), 0);
        due("new: on()", x.on(), -3);
        due("new: clear()", x.clear(), 0);
    }

    private static void letters() {
        LarderAges x = new LarderAges();
        due("letter(0)", x.letter(0), 1);
        due("letter(255)", x.letter(255), 2);
        due("letter(-1)", x.letter(-1), -4);
        due("letter(256)", x.letter(256), -6);
        due("count(7)", x.count(7), 2);
        for (int i = 3; i <= 96; i++) due("letter(59)", x.letter(59), i);
        due("letter 97", x.letter(59), -6);
        due("letter(-1) of 96", x.letter(-1), -4);
        due("letter(256) of 96", x.letter(256), -6);
        due("count(7)", x.count(7), 96);
        due("count(14)", x.count(14), 2);
        due("count(16)", x.count(16), 3);
        due("larder()", x.larder(), -1000);
        due("letters are no more", x.count(7), 0);
    }

    private static void statements() {
        LarderAges x = new LarderAges();
        due("larder", Checks.tell(x, "jj0005;jc3112;f04;m02;e17;x1;y02;"), 7);
        due("letters", x.count(7), 0);
        due("jars", x.count(0), 2);
        due("folk", x.count(3), 4);
        due("year", x.count(1), 2);
        // Jar 1 keeps 12 less 7; jar 0 is eaten of, and lacks 3.
        due("food of 1", x.jar(1, 3), 5);
        due("food of 0", x.jar(0, 3), 0);
        due("shelf of 0", x.jar(0, 2), 2);
        due("shut", x.count(5), 2);
        due("hunger", x.count(2), 3);
        due("x told again", Checks.tell(x, "x1;x0;x0;"), 3);
        due("not shut", x.count(5), 0);
        due("more is eaten than there is", Checks.tell(x, "e19;"), 1);
        due("food of 1", x.jar(1, 3), 0);
        due("a jar behind a larder", Checks.tell(x, "jd9520;e20;"), 2);
        due("food of 2", x.jar(2, 3), 20);
        kinds();
    }

    private static void kinds() {
        LarderAges x = Checks.larderOf("jj0001;jc1101;jp2201;jb3301;jh4401;jd5501;");
        for (int jar = 0; jar < 6; jar++) {
            due("kind", x.jar(jar, 0), jar);
            due("figure", x.jar(jar, 1), jar);
            due("shelf", x.jar(jar, 2), jar);
        }
    }

    private static void faultsOfLetters() {
        String[] texts = {"", ";", "x", "x1", "x;", "xx;", "j", "jx", "jJ", "J", "jja", "jj0", "jj00", "jj000", "jj0000",
            "jj000;", "jj00000", "jj0000;;", "jj0000; ", "jj0000;q", "m", "m0", "m0;", "m00", "m000", "f0;", "f0", "f00f",
            "e0;", "e00", "y1;", "y01", "y01;y", "y:1;", "y/1;", "e00;x", "jm0000;", "jx0000;"};
        int[] places = {0, 0, 1, 2, 1, 1, 1, 1, 1, 0, 2, 3, 4, 5, 6,
            5, 6, 7, 7, 7, 1, 2, 2, 3, 3, 2, 2, 3,
            2, 3, 2, 3, 5, 1, 1, 5, 1, 1};
        for (int i = 0; i < texts.length; i++) {
            due("larder of '" + texts[i] + "'", Checks.tell(new LarderAges(), texts[i]), -1000 - places[i]);
        }
        due("kind 1 comes before kind 2", Checks.tell(new LarderAges(), "x0;x0;y"), -1007);
        LarderAges full = new LarderAges();
        for (int i = 0; i < 96; i++) full.letter(i % 3 == 0 ? 'x' : '0');
        due("a fault in 96 letters", full.larder(), -1002);
    }

    private static void faultsOfSense() {
        String[] texts = {"jj0600;", "jj0900;", "jj0021;", "jj0099;", "m00;", "jj0000;m06;", "jj0000;m10;", "x0;",
            "jj0000;x1;", "f21;", "f99;", "e00;", "jj0005;x0;e01;", "jj0005;x0;e00;", "jj0005;e10;", "y00;", "y61;",
            "y60;y00;", "x0;jj0000;", "jj0000;f20;m15;"};
        int[] places = {0, 0, 0, 0, 0, 7, 7, 0,
            7, 0, 0, 0, 10, 10, 7, 0, 0,
            4, 0, 11};
        for (int i = 0; i < texts.length; i++) {
            due("larder of '" + texts[i] + "'", Checks.tell(new LarderAges(), texts[i]), -2000 - places[i]);
        }
        String[] good = {"jj0520;", "f00;", "f20;", "y01;", "y60;", "jj0005;x0;x0;e05;", "jj0005;x0;m05;", "jj0005;e00;"};
        int[] statements = {1, 1, 1, 1, 1, 4, 3, 2};
        for (int i = 0; i < good.length; i++) {
            due("larder of '" + good[i] + "'", Checks.tell(new LarderAges(), good[i]), statements[i]);
        }
    }

    private static void room() {
        String nine = "jj0001;jj0001;jj0001;jj0001;jj0001;jj0001;jj0001;jj0001;jj0001;";
        LarderAges x = new LarderAges();
        due("ten jars", Checks.tell(x, nine + "jj0001;"), -2063);
        due("nine jars", Checks.tell(x, nine), 9);
        due("one more", Checks.tell(x, "x8;jj0001;"), -2003);
        due("nothing has come", x.count(5), 0);
        LarderAges old = new LarderAges();
        for (int i = 0; i < 16; i++) due("60 years", Checks.tell(old, "y60;"), 1);
        due("40 years", Checks.tell(old, "y01;y39;"), -2004);
        due("year", old.count(1), 960);
        due("39 years", Checks.tell(old, "y39;"), 1);
        due("year", old.count(1), 999);
        due("no year more", Checks.tell(old, "y01;"), -2000);
    }

    private static void faultChangesNothing() {
        LarderAges x = Checks.larderOf("jj0005;jc3112;f04;x1;y01;");
        String before = Checks.stateOf(x);
        due("fault", Checks.tell(x, "jd9520;m05;x0;f07;e22;y03;x9;"), -2026);
        CHECKS.sameState("a fault of kind 2", x, before);
        due("fault", Checks.tell(x, "jd9520;m05;x0;f07;y03"), -1021);
        CHECKS.sameState("a fault of kind 1", x, before);
        for (int what = 11; what <= 16; what++) due("a fault is not counted", x.count(what), 0);
        due("letters are no more", x.count(7), 0);
    }
}
