/** Promises 4 to 11: jar, known, moves, shuts, eats, folk, turn, years. */
public final class JarsTest {
    private static final Checks CHECKS = new Checks();
    private static final String KINDS = "jcpbhd";

    public static void main(String[] args) {
        spoils();
        customs();
        jarRefusals();
        known();
        moves();
        shutsAndEats();
        folk();
        turn();
        years();
        eatingOrder();
        hungerEnds();
        CHECKS.end();
    }

    private static void due(String call, long got, long want) {
        CHECKS.due(call, got, want);
    }

    private static void spoils() {
        int[][] spoils = {{0, 0, 0, 0, 0, 0}, {0, 0, 0, 1, 1, 1}, {1, 1, 1, 1, 1, 1},
            {1, 1, 1, 2, 2, 2}, {0, 1, 1, 1, 1, 1}, {1, 1, 1, 1, 1, 1}};
        for (int kind = 0; kind < 6; kind++) {
            for (int shelf = 0; shelf < 6; shelf++) {
                LarderAges x = Checks.larderOf("j" + KINDS.charAt(kind) + "2" + shelf + "09;f00;");
                due("spoils of " + kind + " on " + shelf, x.jar(0, 5), spoils[kind][shelf]);
                x.years(2);
                due("food of " + kind + " on " + shelf, x.jar(0, 3), 9 - 2 * spoils[kind][shelf]);
                x.years(10);
                due("food of " + kind + " on " + shelf, x.jar(0, 3), Math.max(0, 9 - 12 * spoils[kind][shelf]));
                due("a jar without food spoils as its kind does", x.jar(0, 5), spoils[kind][shelf]);
            }
        }
    }

    private static void customs() {
        for (int figure = 0; figure <= 9; figure++) {
            for (int shelf = 0; shelf < 6; shelf++) {
                int own = 1 << figure;
                int next = figure == 9 ? 1 : 2 << figure;
                int[] customs = {own, own, own, own | next, own | 1 << shelf, own | next | 512};
                for (int kind = 0; kind < 6; kind++) {
                    String jar = "j" + KINDS.charAt(kind) + figure + shelf;
                    due("customs of " + jar, Checks.larderOf(jar + "01;").jar(0, 6), customs[kind]);
                    due("customs of " + jar + " without food", Checks.larderOf(jar + "00;").jar(0, 6), 0);
                }
            }
        }
    }

    private static void jarRefusals() {
        LarderAges x = Checks.larderOf("jb4312;");
        int[] told = {3, 4, 3, 12, 0, 2, 48};
        for (int what = 0; what < told.length; what++) due("jar(0, " + what + ")", x.jar(0, what), told[what]);
        due("jar(1, 0)", x.jar(1, 0), -1);
        due("jar(-1, 0)", x.jar(-1, 0), -1);
        due("jar(9, 9)", x.jar(9, 9), -1);
        due("jar(0, 7)", x.jar(0, 7), -2);
        due("jar(0, -1)", x.jar(0, -1), -2);
        due("count(11)", x.count(11), 3);
        due("count(12)", x.count(12), 2);
        x.shuts(0);
        due("jar(0, 4)", x.jar(0, 4), 1);
    }

    private static void known() {
        LarderAges x = Checks.larderOf("jj0001;jb9102;jh3500;");
        due("known()", x.known(), 1 | 512);
        x.eats(1, 20);
        due("known()", x.known(), 1);
        x.shuts(0);
        due("known() of a shut jar", x.known(), 1);
    }

    private static void moves() {
        LarderAges x = Checks.larderOf("jh0201;jj0100;");
        due("moves(0, 5)", x.moves(0, 5), 2);
        due("moves(0, 0)", x.moves(0, 0), 5);
        due("moves(0, 0)", x.moves(0, 0), 0);
        due("moves(0, 3)", x.moves(0, 3), 0);
        due("jar(0, 2)", x.jar(0, 2), 3);
        due("a hook keeps its shelf", x.jar(0, 6), 9);
        due("moves(2, 0)", x.moves(2, 0), -1);
        due("moves(-1, 0)", x.moves(-1, 0), -1);
        due("moves(0, 6)", x.moves(0, 6), -1);
        due("moves(0, -1)", x.moves(0, -1), -1);
        due("jar(0, 2)", x.jar(0, 2), 3);
        due("count(11)", x.count(11), 4);
    }

    private static void shutsAndEats() {
        LarderAges x = Checks.larderOf("jj0009;jj1020;");
        due("eats(0, 2)", x.eats(0, 2), 7);
        due("eats(0, 0)", x.eats(0, 0), 7);
        due("shuts(0)", x.shuts(0), 1);
        due("eats(0, 1) shut", x.eats(0, 1), -3);
        due("eats(0, 0) shut", x.eats(0, 0), -3);
        due("eats(0, -1) shut", x.eats(0, -1), -4);
        due("eats(0, 21) shut", x.eats(0, 21), -6);
        due("count(5)", x.count(5), 1);
        due("shuts(0)", x.shuts(0), 0);
        due("eats(0, 20)", x.eats(0, 20), 0);
        due("eats(1, 20)", x.eats(1, 20), 0);
        due("eats(2, -1)", x.eats(2, -1), -1);
        due("shuts(2)", x.shuts(2), -1);
        due("shuts(-1)", x.shuts(-1), -1);
        due("count(13)", x.count(13), 2);
        due("hunger", x.count(2), 0);
    }

    private static void folk() {
        LarderAges x = new LarderAges();
        due("folk(0)", x.folk(0), 3);
        due("folk(20)", x.folk(20), 0);
        due("folk(21)", x.folk(21), -6);
        due("folk(-1)", x.folk(-1), -4);
        due("count(3)", x.count(3), 20);
    }

    private static void turn() {
        LarderAges x = Checks.larderOf("jd9320;jj0000;");
        due("turn(0, 0, 0)", x.turn(0, 0, 0), 59);
        due("turn(0, 5, 9)", x.turn(0, 5, 9), 0);
        due("turn(0, 3, 4)", x.turn(0, 3, 4), 59);
        due("jar(0, 6)", x.jar(0, 6), 48);
        due("shelf stays", x.jar(0, 2), 3);
        due("food stays", x.jar(0, 3), 20);
        due("turn(2, 6, -1)", x.turn(2, 6, -1), -1);
        due("turn(0, 6, -1)", x.turn(0, 6, -1), -2);
        due("turn(0, -1, 10)", x.turn(0, -1, 10), -2);
        due("turn(0, 0, -1)", x.turn(0, 0, -1), -4);
        due("turn(0, 0, 10)", x.turn(0, 0, 10), -6);
        due("jar(0, 0)", x.jar(0, 0), 3);
    }

    private static void years() {
        LarderAges x = Checks.larderOf("jj0006;jj1106;x1;");
        due("years(0)", x.years(0), -4);
        due("years(-1)", x.years(-1), -4);
        due("years(61)", x.years(61), -6);
        due("year", x.count(1), 0);
        due("years(1)", x.years(1), 2);
        due("years(1)", x.years(1), 1);
        due("year", x.count(1), 2);
        due("years(60)", x.years(60), 1);
        due("hunger", x.count(2), 180);
        for (int i = 0; i < 15; i++) x.years(60);
        due("year", x.count(1), 962);
        due("years(38)", x.years(38), -6);
        due("years(37)", x.years(37), 1);
        due("years(1)", x.years(1), -6);
        due("years(0)", x.years(0), -4);
        due("count(16)", x.count(16), 3);
        due("year", x.count(1), 999);
        due("in mind years go on", x.hungerThen(60), 180);
    }

    private static void eatingOrder() {
        LarderAges x = Checks.larderOf("jj0104;jj1404;jj2404;jj3504;jj4504;x3;f05;");
        x.years(1);
        int[] food = {4, 3, 4, 4, 0};
        for (int jar = 0; jar < 5; jar++) due("food of " + jar, x.jar(jar, 3), food[jar]);
        x.years(2);
        int[] then = {1, 0, 0, 4, 0};
        for (int jar = 0; jar < 5; jar++) due("food of " + jar, x.jar(jar, 3), then[jar]);
        due("hunger", x.count(2), 0);
        x.years(1);
        due("hunger", x.count(2), 4);
        due("all food", x.count(4), 4);
        LarderAges rot = Checks.larderOf("jp0503;x0;");
        rot.years(2);
        due("shut ones spoil, too", rot.jar(0, 3), 1);
        LarderAges ahead = Checks.larderOf("jp0501;f01;");
        ahead.years(1);
        due("it spoils before it is eaten", ahead.count(2), 1);
    }

    private static void hungerEnds() {
        LarderAges x = Checks.larderOf("f20;");
        for (int i = 0; i < 8; i++) x.years(60);
        x.years(19);
        due("hunger", x.count(2), 9980);
        due("hungerThen(1)", x.hungerThen(1), 19);
        due("hungerThen(60)", x.hungerThen(60), 19);
        due("shutBest(30, 19, 1)", x.shutBest(30, 19, 1), 0);
        due("shutBest(30, 18, 1)", x.shutBest(30, 18, 1), -9);
        x.years(2);
        due("hunger", x.count(2), 9999);
        due("hungerThen(60)", x.hungerThen(60), 0);
        due("first(2)", x.first(2), -9);
    }
}
