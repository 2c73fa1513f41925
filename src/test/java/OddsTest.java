/** Promises 29 to 31 and 36: two, mice, mean, lots. */
public final class OddsTest {
    private static final Checks CHECKS = new Checks();
    private static final long LONG_REFUSAL = 4000000000000000000L;

    public static void main(String[] args) {
        two();
        mice();
        mean();
        lots();
        CHECKS.end();
    }

    private static void due(String call, long got, long want) {
        CHECKS.due(call, got, want);
    }

    private static void two() {
        // Each of one custom: 2 more of eating is better than 1 of keeping.
        LarderAges x = Checks.larderOf("jj0005;jj1105;f00;x0;");
        String before = Checks.stateOf(x);
        due("both eat", x.two(0, 1, 3), 11);
        CHECKS.sameState("two", x, before);
        // Dripping of three customs, kept alone, is better than 2.
        LarderAges kept = Checks.larderOf("jd3105;jd5105;f00;");
        due("both fast", kept.two(0, 1, 4), 0);
        due("without food behind the years both eat", kept.two(0, 1, 5), 11);
        LarderAges bare = Checks.larderOf("jj0000;jj1005;f00;");
        due("who eats of a jar without food has not eaten", bare.two(0, 1, 0), 1);
        due("the other way", bare.two(1, 0, 0), 10);
        // Two drippings of the same customs: one fasts, the other eats; the first such pair.
        LarderAges same = Checks.larderOf("jd3105;jd3105;f00;");
        due("one fasts", same.two(0, 1, 0), 1);
        due("one fasts", same.two(1, 0, 0), 1);
        due("one twice", same.two(1, 1, -1), -1);
        due("no such", same.two(0, 2, -1), -1);
        due("no such", same.two(-1, 0, 31), -1);
        due("no such", same.two(2, 0, 0), -1);
        due("below", same.two(0, 1, -1), -4);
        due("above", same.two(0, 1, 31), -6);
        due("thirty", same.two(0, 1, 30), 11);
        equalIsNotMore();
    }

    private static void equalIsNotMore() {
        // The first would lose three for 2. The other loses two for 2, or none if she fasts: she has no more by eating.
        LarderAges x = Checks.larderOf("jd0101;jb2501;jj4501;");
        due("both fast", x.two(0, 1, 0), 0);
        due("folk eat what is left of the floor", x.two(0, 1, 1), 11);
    }

    private static void mice() {
        // 3 of FOOD on the floor, 1 spoils: behind a year 2, or with mice 0.
        LarderAges x = Checks.larderOf("jp1503;f00;jj2405;x0;");
        String before = Checks.stateOf(x);
        fraction("one year", x, 1, 1, 3, 2, 3);
        fraction("two years", x, 1, 2, 3, 4, 9);
        fraction("three years", x, 1, 3, 3, 0, 1);
        fraction("now", x, 1, 0, 20, 1, 1);
        fraction("not on the floor", x, 2, 7, 20, 1, 1);
        fraction("not known", x, 9, 7, 20, 0, 1);
        CHECKS.sameState("mice", x, before);
        // 9 of FOOD that does not spoil: bare behind 5 visits at least of 7.
        LarderAges five = Checks.larderOf("jj1509;f00;");
        fraction("five of seven", five, 1, 7, 2, 128 - 21 - 7 - 1, 128);
        // 21 ways of 5, 7 of 6, one of 7, in fifths.
        fraction("five of seven", five, 1, 7, 20, (1280000000L - 21 * 361 - 7 * 19 - 1) / 5, 1280000000L / 5);
        // To all jars or to none: both of them are bare with odds 1 in 2.
        fraction("to all or to none", Checks.larderOf("jj1502;jj1502;f00;"), 1, 1, 2, 1, 2);
        due("mice(10, -1, 1, 2)", x.mice(10, -1, 1, 2), LONG_REFUSAL + 1);
        due("mice(-1, 8, 21, 2)", x.mice(-1, 8, 21, 2), LONG_REFUSAL + 1);
        due("mice(0, -1, 21, 2)", x.mice(0, -1, 21, 2), LONG_REFUSAL + 4);
        due("mice(0, 8, 1, 2)", x.mice(0, 8, 1, 2), LONG_REFUSAL + 4);
        due("mice(0, 8, 2, 2)", x.mice(0, 8, 2, 2), LONG_REFUSAL + 6);
        due("mice(0, 0, 21, 2)", x.mice(0, 0, 21, 2), LONG_REFUSAL + 6);
        due("mice(0, 0, 2, 2)", x.mice(0, 0, 2, 2), LONG_REFUSAL + 2);
        due("mice(0, 0, 2, -1)", x.mice(0, 0, 2, -1), LONG_REFUSAL + 2);
        due("count(11)", x.count(11), 2);
        due("count(14)", x.count(14), 2);
        due("count(16)", x.count(16), 2);
        due("count(12)", x.count(12), 2);
    }

    private static void fraction(String name, LarderAges x, int custom, int n, int t, long above, long below) {
        due(name + ", above", x.mice(custom, n, t, 0), above);
        due(name + ", below", x.mice(custom, n, t, 1), below);
    }

    private static void mean() {
        LarderAges x = Checks.larderOf("jj0005;jj0008;jj0002;x1;");
        due("mean(0)", x.mean(0), 5);
        due("mean(1)", x.mean(1), 1);
        x.eats(0, 1);
        due("mean(0)", x.mean(0), 14);
        due("mean(1)", x.mean(1), 3);
        due("mean(2)", x.mean(2), LONG_REFUSAL + 2);
        due("mean(-1)", x.mean(-1), LONG_REFUSAL + 2);
        due("count(12)", x.count(12), 2);
        due("one jar", Checks.larderOf("jj0003;").mean(0), 3);
        due("one jar", Checks.larderOf("jj0003;").mean(1), 1);
        due("0 by 1", Checks.larderOf("jj0000;jj0000;").mean(1), 1);
        due("0 by 1", new LarderAges().mean(1), 1);
        due("0 by 1", new LarderAges().mean(0), 0);
    }

    private static void lots() {
        LarderAges x = Checks.larderOf("jh3020;jj5020;f01;");
        String before = Checks.stateOf(x);
        int[] seeds = {0, 1, 7, -1, Integer.MAX_VALUE, Integer.MIN_VALUE, 123456789};
        for (int z : seeds) {
            for (int n = 1; n <= 20; n += 19) {
                due("lots(" + n + ", " + z + ", 0)", x.lots(n, z, 0), drawnByHand(n, z, 0));
                due("lots(" + n + ", " + z + ", 1)", x.lots(n, z, 1), drawnByHand(n, z, 1));
            }
        }
        CHECKS.sameState("lots", x, before);
        due("lots(0, 0, 2)", x.lots(0, 0, 2), -4);
        due("lots(21, 0, 2)", x.lots(21, 0, 2), -6);
        due("lots(1, 0, 2)", x.lots(1, 0, 2), -2);
        due("lots(1, 0, -1)", x.lots(1, 0, -1), -2);
    }

    /** Tells each drawn century of the two jars as a larder of its own. */
    private static long drawnByHand(int n, int z, int what) {
        int seed = z;
        long sum = 0;
        for (int century = 0; century < n; century++) {
            int[] drawn = new int[4];
            for (int i = 0; i < 4; i++) {
                seed = seed * 1664525 + 1013904223;
                int positive = seed < 0 ? seed + Integer.MIN_VALUE : seed;
                drawn[i] = positive / 256 % (i % 2 == 0 ? 6 : 21);
            }
            String first = "jh3" + drawn[0] + drawn[1] / 10 + drawn[1] % 10 + ";";
            String other = "jj5" + drawn[2] + drawn[3] / 10 + drawn[3] % 10 + ";";
            LarderAges told = Checks.larderOf(first + other + "f01;");
            int known = told.years(10);
            sum += what == 0 ? known : told.count(2);
        }
        return sum;
    }
}
