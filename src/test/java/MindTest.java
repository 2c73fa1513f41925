/** Promises 12 to 19 and 27: years in mind, what is first, what would be best. */
public final class MindTest {
    private static final Checks CHECKS = new Checks();

    public static void main(String[] args) {
        then();
        first();
        lasts();
        shutBest();
        move();
        folkFor();
        fill();
        CHECKS.end();
    }

    private static void due(String call, long got, long want) {
        CHECKS.due(call, got, want);
    }

    private static void then() {
        LarderAges x = Checks.larderOf("jj0007;jc3306;jd5120;x2;");
        String before = Checks.stateOf(x);
        // Jar 1 spoils by 1 and is eaten of first: 2 behind a year, 0 behind two, 2 are eaten of jar 0 then.
        int dripping = 32 | 64 | 512;
        int[] known = {dripping | 8 | 1, dripping | 8 | 1, dripping | 1, dripping | 1, dripping};
        int[] ofJar0 = {7, 7, 5, 2, 0};
        int[] ofJar1 = {6, 2, 0, 0, 0};
        int[] hunger = {0, 0, 0, 0, 1};
        for (int n = 0; n < known.length; n++) {
            due("knownThen(" + n + ")", x.knownThen(n), known[n]);
            due("foodThen(0, " + n + ")", x.foodThen(0, n), ofJar0[n]);
            due("foodThen(1, " + n + ")", x.foodThen(1, n), ofJar1[n]);
            due("foodThen(2, " + n + ")", x.foodThen(2, n), 20 - n);
            due("hungerThen(" + n + ")", x.hungerThen(n), hunger[n]);
        }
        due("knownThen(19)", x.knownThen(19), dripping);
        due("knownThen(20)", x.knownThen(20), 0);
        due("knownThen(60)", x.knownThen(60), 0);
        due("hungerThen(60)", x.hungerThen(60), 1 + 3 * 56);
        due("knownThen(-1)", x.knownThen(-1), -4);
        due("knownThen(61)", x.knownThen(61), -6);
        due("hungerThen(-1)", x.hungerThen(-1), -4);
        due("hungerThen(61)", x.hungerThen(61), -6);
        due("foodThen(2, 7)", x.foodThen(2, 7), 13);
        due("foodThen(2, 60)", x.foodThen(2, 60), 0);
        due("foodThen(3, -1)", x.foodThen(3, -1), -1);
        due("foodThen(-1, 61)", x.foodThen(-1, 61), -1);
        due("foodThen(0, -1)", x.foodThen(0, -1), -4);
        due("foodThen(0, 61)", x.foodThen(0, 61), -6);
        CHECKS.sameState("years in mind", x, before);
        x.years(4);
        due("hungerThen(2) is more than now", x.hungerThen(2), 6);
    }

    private static void first() {
        LarderAges x = Checks.larderOf("jj7003;jj4003;jj2120;x2;");
        due("first(0)", x.first(0), 7);
        due("first(1)", x.first(1), 1);
        x.folk(6);
        due("first(0), the least of several", x.first(0), 4);
        due("first(2)", x.first(2), 2);
        due("first(3), of a shut jar", x.first(3), -9);
        x.folk(0);
        due("first(0)", x.first(0), -9);
        due("first(1)", x.first(1), -9);
        due("first(2)", x.first(2), -9);
        due("first(4)", x.first(4), -2);
        due("first(-1)", x.first(-1), -2);
        x.eats(0, 3);
        x.eats(1, 3);
        x.turn(2, 2, 0);
        due("first(0)", x.first(0), 0);
        due("first(1)", x.first(1), 20);
        due("first(3)", x.first(3), 20);
        due("first(3) without food", Checks.larderOf("jj0000;").first(3), 0);
        due("first(2) without jars", new LarderAges().first(2), 1);
        LarderAges last = Checks.larderOf("jj1020;jj1020;jj1020;f01;");
        due("forgotten in the last year", last.first(1), 60);
        due("forgotten in the last year", last.first(0), 1);
        last.eats(0, 1);
        due("hungry in the last year", last.first(2), 60);
        due("forgotten ahead of it", last.first(1), 59);
        LarderAges two = Checks.larderOf("jj3003;jj3120;x1;");
        due("a custom that another jar keeps is not forgotten", two.first(0), -9);
    }

    private static void lasts() {
        LarderAges x = Checks.larderOf("jj0000;jp0120;jj0209;x1;f01;");
        due("lasts(0)", x.lasts(0), 0);
        due("lasts(1)", x.lasts(1), 20);
        due("lasts(2)", x.lasts(2), 9);
        x.folk(0);
        due("lasts(2)", x.lasts(2), -9);
        due("lasts(3)", x.lasts(3), -1);
        due("lasts(-1)", x.lasts(-1), -1);
        LarderAges long60 = Checks.larderOf("jj0020;jj0020;jj0020;f01;");
        due("lasts(2) to the end", long60.lasts(2), 60);
        due("first(3) to the end", long60.first(3), 60);
        due("first(2) comes behind it", long60.first(2), -9);
    }

    private static void shutBest() {
        LarderAges x = Checks.larderOf("jj0006;jj1106;jj2206;x2;");
        String before = Checks.stateOf(x);
        due("shutBest(0, 0, 0), all not shut at once", x.shutBest(0, 0, 0), 0);
        due("shutBest(0, 0, 1)", x.shutBest(0, 0, 1), 3);
        // Behind 2 YEARS 6 are eaten: of jar 2, if nothing is shut, then 2 are KNOWN; shutting others does no better.
        due("shutBest(2, 0, 0)", x.shutBest(2, 0, 0), 0);
        due("shutBest(2, 0, 1)", x.shutBest(2, 0, 1), 2);
        due("shutBest(2, 5, 0)", x.shutBest(2, 5, 0), 0);
        due("shutBest(2, 6, 0)", x.shutBest(2, 6, 0), 7);
        due("shutBest(2, 6, 1)", x.shutBest(2, 6, 1), 3);
        due("shutBest(6, 0, 0)", x.shutBest(6, 0, 0), 0);
        due("shutBest(7, 2, 0)", x.shutBest(7, 2, 0), -9);
        due("shutBest(7, 2, 1)", x.shutBest(7, 2, 1), -9);
        due("shutBest(7, 3, 1)", x.shutBest(7, 3, 1), 0);
        due("shutBest(30, 99, 0)", x.shutBest(30, 99, 0), 7);
        due("shutBest(-1, 100, 2)", x.shutBest(-1, 100, 2), -4);
        due("shutBest(31, -1, 2)", x.shutBest(31, -1, 2), -4);
        due("shutBest(31, 0, 2)", x.shutBest(31, 0, 2), -6);
        due("shutBest(0, 100, 2)", x.shutBest(0, 100, 2), -6);
        due("shutBest(0, 0, 2)", x.shutBest(0, 0, 2), -2);
        due("shutBest(0, 0, -1)", x.shutBest(0, 0, -1), -2);
        CHECKS.sameState("shutBest", x, before);
        due("without jars", new LarderAges().shutBest(1, 3, 0), 0);
        due("without jars", new LarderAges().shutBest(1, 2, 0), -9);
    }

    private static void move() {
        // Hooks KEEP the SHELF too: jar 0 on SHELF 0 KEEPS 0 and 3.
        LarderAges x = Checks.larderOf("jh3305;jj0005;f00;");
        String before = Checks.stateOf(x);
        due("move(0)", x.move(0), 1);
        CHECKS.sameState("move", x, before);
        due("move(4), it spoils but on shelf 0", x.move(4), 1);
        due("move(5)", x.move(5), 0);
        due("move(-1)", x.move(-1), -4);
        due("move(31)", x.move(31), -6);
        due("move(30)", x.move(30), 0);
        due("nothing is more", Checks.larderOf("jj0005;jj1005;f00;").move(30), -9);
        due("without jars", new LarderAges().move(0), -9);
        due("the second jar", Checks.larderOf("jj0005;jh1105;f00;").move(0), 12);
    }

    private static void folkFor() {
        LarderAges x = Checks.larderOf("jj0520;jj1020;");
        due("folkFor(0, 0)", x.folkFor(0, 0), 20);
        due("folkFor(0, 1)", x.folkFor(0, 1), 19);
        due("folkFor(0, 30)", x.folkFor(0, 30), 0);
        due("folkFor(1, 2)", x.folkFor(1, 2), 19);
        due("folkFor(1, 1)", x.folkFor(1, 1), 20);
        due("folkFor(2, 1)", x.folkFor(2, 1), -9);
        due("folkFor(10, -1)", x.folkFor(10, -1), -1);
        due("folkFor(-1, 31)", x.folkFor(-1, 31), -1);
        due("folkFor(9, -1)", x.folkFor(9, -1), -4);
        due("folkFor(9, 31)", x.folkFor(9, 31), -6);
        due("folk are as they were", x.count(3), 3);
    }

    private static void fill() {
        LarderAges x = new LarderAges();
        x.folk(0);
        due("a hook that keeps shelf and figure", x.fill(3, 2, 0, 0), 5);
        due("how many", x.fill(3, 2, 0, 1), 3);
        due("figure 8: dripping is no more than brawn", x.fill(8, 2, 0, 0), 3);
        due("figure 8", x.fill(8, 2, 0, 1), 2);
        due("figure 9 on shelf 0: all keep 0 and 9 but those of one", x.fill(9, 0, 0, 0), 3);
        due("behind 9 years brawn and dripping are bare", x.fill(3, 2, 9, 0), 0);
        due("a hook on shelf 0 lasts", x.fill(3, 0, 9, 0), 4);
        due("behind 4 years", x.fill(3, 3, 4, 0), 5);
        due("behind 8 years brawn on shelf 3 is bare", x.fill(8, 3, 8, 0), 4);
        due("food is 9", x.fill(3, 5, 8, 1), 3);
        due("food is 9", x.fill(3, 5, 9, 1), 1);
        due("behind 30 years", x.fill(3, 2, 30, 0), 0);
        due("behind 30 years", x.fill(3, 2, 30, 1), 1);
        due("no jar has come", x.count(0), 0);
        due("fill(-1, 6, -1, 2)", x.fill(-1, 6, -1, 2), -1);
        due("fill(-1, -1, 31, 2)", x.fill(-1, -1, 31, 2), -1);
        due("fill(-1, 0, 31, 2)", x.fill(-1, 0, 31, 2), -4);
        due("fill(10, 0, -1, 2)", x.fill(10, 0, -1, 2), -4);
        due("fill(10, 0, 0, 2)", x.fill(10, 0, 0, 2), -6);
        due("fill(0, 0, 31, 2)", x.fill(0, 0, 31, 2), -6);
        due("fill(0, 0, 0, 2)", x.fill(0, 0, 0, 2), -2);
        due("fill(0, 0, 0, -1)", x.fill(0, 0, 0, -1), -2);
        LarderAges nine = Checks.larderOf("jj0001;jj0001;jj0001;jj0001;jj0001;jj0001;jj0001;jj0001;jj0001;");
        due("nine there are", nine.fill(3, 0, 0, 0), -9);
        due("nine there are", nine.fill(3, 0, 0, 1), -9);
        due("nine there are, refused", nine.fill(3, 0, 0, 2), -2);
        LarderAges behind = Checks.larderOf("jj0509;");
        due("the new jar is the last one on its shelf", behind.fill(1, 5, 3, 0), 5);
        due("jar 0 is bare then, dripping is not", behind.fill(1, 5, 3, 1), 3);
    }
}
