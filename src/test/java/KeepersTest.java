/** Promises 20 to 26 and 28: which jars keep what. */
public final class KeepersTest {
    private static final Checks CHECKS = new Checks();

    public static void main(String[] args) {
        onlyAndKeepers();
        fewest();
        dearest();
        fullest();
        age();
        leak();
        feast();
        CHECKS.end();
    }

    private static void due(String call, long got, long want) {
        CHECKS.due(call, got, want);
    }

    private static void onlyAndKeepers() {
        // 0 KEEPS 1, 2; 1 KEEPS 2; 2 KEEPS 2, 3, 9; 3 has no FOOD.
        LarderAges x = Checks.larderOf("jb1004;jj2104;jd2204;jj8300;");
        due("only()", x.only(), 1 | 4);
        due("keepers(2)", x.keepers(2), 7);
        due("keepers(8)", x.keepers(8), 0);
        due("keepers(9)", x.keepers(9), 4);
        due("keepers(10)", x.keepers(10), -1);
        due("keepers(-1)", x.keepers(-1), -1);
        x.eats(2, 4);
        due("only() now", x.only(), 1);
        x.eats(0, 4);
        due("only() now", x.only(), 2);
        due("count(11)", x.count(11), 2);
    }

    private static void fewest() {
        due("one for all", Checks.larderOf("jj1004;jj2104;jb1204;").fewest(), 4);
        due("the least of several", Checks.larderOf("jj1004;jj2104;jj1204;jj2004;").fewest(), 3);
        due("fewer before less", Checks.larderOf("jj1001;jj2001;jj3001;jb1001;jb3001;jb2001;").fewest(), 24);
        due("none", Checks.larderOf("jj1000;").fewest(), 0);
        due("those with food", Checks.larderOf("jj1000;jj1001;").fewest(), 2);
        due("nine", Checks.larderOf("jj0001;jj1001;jj2001;jj3001;jj4001;jj5001;jj6001;jj7001;jj8001;").fewest(), 511);
    }

    private static void dearest() {
        due("two alone", Checks.larderOf("jj0004;jb1104;jj1104;jd3204;").dearest(), 3);
        due("the least of several", Checks.larderOf("jj0004;jj1104;").dearest(), 0);
        due("one that keeps none alone", Checks.larderOf("jj0000;jj1004;jj1104;").dearest(), 1);
        due("none has food", Checks.larderOf("jj0000;").dearest(), -9);
        due("one of 1", Checks.larderOf("jj0001;").dearest(), 0);
        due("a shut one, too", Checks.larderOf("jj1004;jj1004;jj2004;x2;").dearest(), 2);
    }

    private static void fullest() {
        LarderAges x = Checks.larderOf("jj0109;jj0508;jj0502;jj0409;x1;");
        due("fullest(0)", x.fullest(0), 5);
        due("fullest(1)", x.fullest(1), 10);
        x.moves(0, 4);
        due("fullest(0)", x.fullest(0), 4);
        due("fullest(1)", x.fullest(1), 18);
        x.eats(0, 8);
        due("the least of several", x.fullest(0), 4);
        due("fullest(2)", x.fullest(2), -2);
        due("fullest(-1)", x.fullest(-1), -2);
        due("none has any", Checks.larderOf("jj0400;").fullest(0), 0);
        due("none has any", Checks.larderOf("jj0400;").fullest(1), 0);
    }

    private static void age() {
        LarderAges x = Checks.larderOf("jj3504;jb2404;jj3100;jh0204;");
        due("age(3)", x.age(3), 4);
        due("age(2)", x.age(2), 2);
        due("age(0)", x.age(0), 2);
        due("age(7)", x.age(7), -9);
        due("age(10)", x.age(10), -1);
        due("age(-1)", x.age(-1), -1);
        x.moves(0, 0);
        due("age(3)", x.age(3), 0);
    }

    private static void leak() {
        LarderAges x = Checks.larderOf("jj1004;jj2104;jj3104;jb2204;x1;");
        due("leak(0), the least of several", x.leak(0), 0);
        due("leak(1)", x.leak(1), 2);
        x.turn(0, 0, 3);
        due("leak(0)", x.leak(0), 0);
        due("leak(1)", x.leak(1), 2);
        x.eats(3, 4);
        due("leak(0), with all of a shelf", x.leak(0), 1);
        due("leak(1)", x.leak(1), 1);
        due("leak(2)", x.leak(2), -2);
        due("leak(-1)", x.leak(-1), -2);
        due("nothing is eaten", x.count(4), 12);
        due("without jars", new LarderAges().leak(0), 0);
        due("without jars", new LarderAges().leak(1), 0);
        // Each CUSTOM is kept on two SHELVES.
        LarderAges twice = Checks.larderOf("jd0001;jd0101;jd2001;jh2401;jd4001;jd6001;jd6101;jh8301;jh8501;");
        due("all ten stay", twice.leak(0), 0);
        due("all ten stay", twice.leak(1), 10);
    }

    private static void feast() {
        due("one stays of each", Checks.larderOf("jj0005;jj1105;").feast(), 8);
        due("of two one is enough", Checks.larderOf("jj0005;jj0109;").feast(), 13);
        due("a shut one keeps it", Checks.larderOf("jj0005;jj0109;x1;").feast(), 5);
        due("all are shut", Checks.larderOf("jj0005;x0;").feast(), 0);
        due("one keeps for two", Checks.larderOf("jj1005;jj2105;jb1205;").feast(), 14);
        due("one of 1", Checks.larderOf("jj1001;").feast(), 0);
        due("a shut one without food", Checks.larderOf("jj1000;jj1003;x0;").feast(), 2);
        due("without jars", new LarderAges().feast(), 0);
    }
}
