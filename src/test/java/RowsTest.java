/** Promises 32 to 35 and 37 to 39: whatWas, row, judge, clear, image, on, count. */
public final class RowsTest {
    private static final Checks CHECKS = new Checks();

    public static void main(String[] args) {
        row();
        whatWas();
        judge();
        image();
        count();
        CHECKS.end();
    }

    private static void due(String call, long got, long want) {
        CHECKS.due(call, got, want);
    }

    private static void row() {
        LarderAges x = new LarderAges();
        due("row(-1)", x.row(-1), -4);
        due("row(100)", x.row(100), -6);
        for (int i = 1; i <= 16; i++) due("row", x.row(i == 1 ? 99 : 0), i);
        due("row(0)", x.row(0), -6);
        due("row(-1)", x.row(-1), -4);
        due("count(6)", x.count(6), 16);
        due("clear()", x.clear(), 16);
        due("clear()", x.clear(), 0);
        due("count(6)", x.count(6), 0);
        due("row(0)", x.row(0), 1);
    }

    private static void whatWas() {
        LarderAges x = Checks.larderOf("jj2309;jj0509;f00;");
        due("by no row all kinds", x.whatWas(0, 0), 63);
        due("by no row all shelves", x.whatWas(0, 1), 63);
        x.row(9);
        due("by food of now", x.whatWas(0, 0), 63);
        x.row(8);
        due("those that spoil by 1", x.whatWas(0, 0), 2 | 4 | 16 | 32);
        due("a jar spoils on no shelf", x.whatWas(0, 1), 0);
        x.turn(0, 1, 2);
        due("a cheese does on those below", x.whatWas(0, 1), 8 | 16 | 32);
        x.row(6);
        due("no kind goes so", x.whatWas(0, 0), 0);
        due("the row stays", x.count(6), 3);
        due("whatWas(2, 2)", x.whatWas(2, 2), -1);
        due("whatWas(-1, 2)", x.whatWas(-1, 2), -1);
        due("whatWas(0, 2)", x.whatWas(0, 2), -2);
        due("whatWas(0, -1)", x.whatWas(0, -1), -2);
        x.clear();
        x.folk(1);
        x.row(9);
        x.row(8);
        String before = Checks.stateOf(x);
        // Folk eat of jar 1 on the floor, or of jar 0 there: then it is 7, as it spoils too.
        due("where folk do not eat of it", x.whatWas(0, 1), 8 | 16);
        CHECKS.sameState("whatWas", x, before);
        x.clear();
        x.row(8);
        due("food of now is not so", x.whatWas(0, 0), 0);
    }

    private static void judge() {
        LarderAges x = Checks.larderOf("jj2004;jj0108;");
        // 12 are eaten, 3 a year: of jar 1 first, it lies deeper.
        int[] known = {2, 2, 2, 1, 0, 0};
        for (int v : known) x.row(v);
        String before = Checks.stateOf(x);
        due("as it goes", x.judge(), -9);
        due("the row has none then", x.count(6), 0);
        CHECKS.sameState("judge", x, before);
        x.row(1);
        due("wrong at once", x.judge(), 0);
        due("the row has none then", x.count(6), 0);
        x.row(2);
        x.row(2);
        // Behind 2 YEARS jar 1 still holds 2, so 1 is wrong there.
        x.row(1);
        x.row(0);
        due("wrong behind 2 years", x.judge(), 2);
        due("no row", x.judge(), -9);
    }

    private static void image() {
        LarderAges x = Checks.larderOf("jj2004;jb0108;x1;f05;y02;");
        due("on()", x.on(), -3);
        String before = Checks.stateOf(x);
        due("image()", x.image(), 2);
        x.row(7);
        x.letter('j');
        due("refused", x.jar(9, 0), -1);
        x.turn(0, 4, 9);
        x.moves(0, 5);
        x.shuts(0);
        x.shuts(1);
        x.eats(1, 3);
        x.folk(20);
        x.years(5);
        due("on()", x.on(), 2);
        CHECKS.sameState("on from the image", x, before);
        due("the row is not in it", x.count(6), 1);
        due("letters are not in it", x.count(7), 1);
        due("refusals are not in it", x.count(11), 1);
        due("refusals are not in it", x.count(13), 1);
        due("a larder", Checks.tell(x, "j3009;y01;"), 2);
        due("on() again, the jar is gone", x.on(), 2);
        due("jars", x.count(0), 2);
        due("a jar that was shut, gone, and another in its place", Checks.tell(x, "jj3009;x2;"), 2);
        x.on();
        due("a jar comes not shut", Checks.tell(x, "jj3009;"), 1);
        due("shut is what was", x.count(5), 2);
        x.on();
        x.years(1);
        due("an image anew", x.image(), 3);
        x.years(1);
        due("on()", x.on(), 3);
    }

    private static void count() {
        LarderAges x = Checks.larderOf("jj2004;jb0108;jj0020;x1;x2;f06;y02;");
        int[] counts = {3, 2, 8, 6, 26, 6, 0, 0};
        for (int what = 0; what < counts.length; what++) due("count(" + what + ")", x.count(what), counts[what]);
        x.row(3);
        x.letter(3);
        due("count(6)", x.count(6), 1);
        due("count(7)", x.count(7), 1);
        int[] others = {-1, 8, 9, 10, 17, 18, Integer.MIN_VALUE, Integer.MAX_VALUE};
        for (int what : others) due("count(" + what + ")", x.count(what), -9);
        due("-9 is no refusal", x.fill(0, 6, 0, 0), -1);
        x.first(9);
        x.on();
        x.folk(-1);
        x.folk(21);
        int[] refused = {1, 1, 1, 1, 0, 1};
        for (int i = 0; i < refused.length; i++) due("count(" + (11 + i) + ")", x.count(11 + i), refused[i]);
    }
}
