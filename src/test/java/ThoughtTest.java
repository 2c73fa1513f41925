/** The bounds under "Terms", part II, and "so that nothing is read two ways": the value on each side of each bound. */
public final class ThoughtTest {
    private static final Checks CHECKS = new Checks();
    private static final String NINE = "jj0020;jj1020;jj2020;jj3020;jj4020;jj5020;jj6020;jj7020;jj8020;";

    public static void main(String[] args) {
        withoutJars();
        withOneBareJar();
        withNineJars();
        behindTheLastYear();
        yearsInMind();
        forgotten();
        hungry();
        bare();
        lasts();
        shutBestAtItsBounds();
        shutBestOfSeveral();
        moveAtItsBounds();
        folkForAtItsBounds();
        only();
        fewest();
        dearest();
        fullest();
        age();
        leak();
        fillAtItsBounds();
        feast();
        twoAtItsBounds();
        miceAtTheirBounds();
        miceOnTheFloor();
        mean();
        whatWas();
        rowAtItsBounds();
        judgeAtItsBounds();
        lotsAtItsBounds();
        draws();
        image();
        CHECKS.end();
    }

    /** "Without JARS: BARE behind 0, SHUT BEST 0, if HUNGER allows it, the SHELF of most FOOD 0, LEAK 0"; and the rest. */
    private static void withoutJars() {
        CHECKS.scriptOf("", "known = 0", "knownThen 0 = 0", "knownThen 60 = 0", "hungerThen 0 = 0", "hungerThen 60 = 180",
            "first 0 = -9", "first 1 = -9", "first 2 = 1", "first 3 = 0", "shutBest 0 0 0 = 0", "shutBest 0 0 1 = 0",
            "shutBest 30 90 0 = 0", "shutBest 30 90 1 = 0", "shutBest 30 89 0 = -9", "shutBest 30 89 1 = -9", "move 0 = -9",
            "move 30 = -9", "folkFor 0 0 = -9", "only = 0", "keepers 0 = 0", "fewest = 0", "dearest = -9", "fullest 0 = 0",
            "fullest 1 = 0", "age 0 = -9", "leak 0 = 0", "leak 1 = 0", "feast = 0", "mice 0 7 20 0 = 0", "mice 0 7 20 1 = 1",
            "mean 0 = 0", "mean 1 = 1", "judge = -9", "clear = 0", "lots 1 7 0 = 0", "lots 1 7 1 = 30", "lots 20 7 1 = 600",
            "image = 0", "on = 0", "row 0 = 1", "row 0 = 2", "judge = -9", "row 1 = 1", "judge = 0", "years 60 = 0",
            "folk 0 = 3", "first 2 = -9", "hungerThen 60 = 0", "shutBest 30 0 0 = 0", "lots 20 7 1 = 0");
    }

    /** "A JAR without FOOD KEEPS nothing"; "(also if none has any)". */
    private static void withOneBareJar() {
        CHECKS.scriptOf("jd3400;", "known = 0", "jar 0 6 = 0", "jar 0 3 = 0", "first 0 = -9", "first 1 = -9", "first 2 = 1",
            "first 3 = 0", "lasts 0 = 0", "shutBest 0 0 0 = 0", "shutBest 0 0 1 = 0", "shutBest 1 2 0 = -9", "move 0 = -9",
            "folkFor 3 0 = -9", "only = 0", "keepers 3 = 0", "fewest = 0", "dearest = -9", "fullest 0 = 0", "fullest 1 = 0",
            "age 3 = -9", "leak 0 = 0", "leak 1 = 0", "feast = 0", "mice 3 1 2 0 = 0", "mice 3 1 2 1 = 1", "mean 0 = 0",
            "mean 1 = 1", "eats 0 20 = 0", "hungerThen 60 = 180");
    }

    /** "(9 at most)": the last of nine JARS counts in every call. */
    private static void withNineJars() {
        CHECKS.scriptOf(NINE + "f00;", "known = 511", "knownThen 60 = 511", "foodThen 8 60 = 20", "hungerThen 60 = 0", "first 0 = -9",
            "first 3 = -9", "lasts 8 = -9", "shutBest 30 0 0 = 0", "shutBest 30 0 1 = 9", "move 30 = -9", "folkFor 8 30 = 5",
            "folkFor 0 30 = 0", "only = 511", "keepers 8 = 256", "fewest = 511", "dearest = 0", "fullest 0 = 0", "fullest 1 = 180",
            "age 8 = 0", "leak 0 = 0", "leak 1 = 0", "fill 9 0 0 0 = -9", "fill 9 0 0 1 = -9", "feast = 171", "two 7 8 30 = 11",
            "two 8 0 30 = 11", "mice 8 7 2 0 = 1", "mice 8 7 2 1 = 1", "mean 0 = 20", "mean 1 = 1", "row 20 = 1", "row 20 = 2",
            "whatWas 8 0 = 19", "whatWas 8 1 = 63", "judge = 0", "turn 8 5 8 = 8", "known = 1023", "dearest = 8", "moves 8 5 = 0",
            "fullest 0 = 0", "leak 1 = 2", "leak 0 = 0", "age 9 = 5", "shuts 8 = 1", "count 5 = 256", "feast = 152", "count 4 = 180",
            "years 20 = 8", "jar 8 3 = 0", "known = 255", "folk 20 = 0", "years 7 = 1", "known = 128", "years 1 = 0", "count 4 = 0",
            "count 2 = 0");
        CHECKS.scriptOf(NINE + "f20;", "first 0 = 0", "first 1 = 1", "first 2 = 10", "first 3 = 9", "lasts 8 = 9", "lasts 0 = 1",
            "foodThen 8 8 = 20", "foodThen 8 9 = 0", "hungerThen 9 = 0", "hungerThen 10 = 20", "shutBest 1 0 0 = 0",
            "shutBest 1 19 1 = 8", "shutBest 1 20 0 = 511", "shutBest 1 20 1 = 9");
    }

    /** "(In thought YEAR may pass 999.)": in every call that thinks. */
    private static void behindTheLastYear() {
        LarderAges x = new LarderAges();
        for (int i = 0; i < 16; i++) x.years(60);
        x.years(39);
        CHECKS.script(x, "tell jj0020;jp1520;f00; = 3", "count 1 = 999", "knownThen 19 = 3", "knownThen 60 = 1", "foodThen 1 7 = 13",
            "foodThen 0 60 = 20", "first 0 = 1", "first 1 = 20", "first 2 = -9", "first 3 = -9", "lasts 1 = 20", "lasts 0 = -9",
            "shutBest 19 0 1 = 2", "shutBest 30 0 1 = 1", "move 30 = -9", "folkFor 0 30 = 0", "folkFor 0 29 = 1", "folkFor 1 19 = 0",
            "fill 5 0 8 1 = 5", "fill 5 0 30 1 = 2", "two 0 1 19 = 11", "mice 1 7 2 0 = 127", "mice 1 7 2 1 = 128", "lots 20 7 1 = 0", "folk 1 = 0",
            "hungerThen 60 = 30", "count 1 = 999", "years 1 = -6");
        CHECKS.script(x, "row 20 = 1", "row 18 = 2", "row 16 = 3", "whatWas 1 0 = 54", "whatWas 1 1 = 62", "clear = 3");
        for (int i = 0; i < 10; i++) CHECKS.due("row(2)", x.row(2), i + 1);
        CHECKS.script(x, "row 1 = 11", "row 1 = 12", "judge = -9", "count 1 = 999");
    }

    /** "n YEARS on (0 .. 60)". */
    private static void yearsInMind() {
        CHECKS.scriptOf("jj0020;jj1020;jj2020;f01;", "knownThen 0 = 7", "knownThen 19 = 7", "knownThen 20 = 6", "knownThen 59 = 4",
            "knownThen 60 = 0", "foodThen 2 0 = 20", "foodThen 2 40 = 20", "foodThen 2 41 = 19", "foodThen 2 59 = 1", "foodThen 2 60 = 0",
            "hungerThen 0 = 0", "hungerThen 60 = 0", "eats 2 1 = 19", "hungerThen 59 = 0", "hungerThen 60 = 1", "count 1 = 0");
        CHECKS.scriptOf("f20;", "hungerThen 60 = 1200", "hungerThen 1 = 20", "years 1 = 0", "hungerThen 1 = 20", "hungerThen 0 = 0");
    }

    /** "FORGOTTEN: the CUSTOM that is KNOWN now and is not first, of several the least; -9; when (1 .. 60)". */
    private static void forgotten() {
        String sixty = "jj9020;jj9020;jj9020;";
        CHECKS.scriptOf(sixty + "f01;", "first 0 = 9", "first 1 = 60", "knownThen 60 = 0");
        CHECKS.scriptOf(sixty + "jj9001;f01;", "first 0 = -9", "first 1 = -9", "knownThen 60 = 512");
        CHECKS.scriptOf("jj4001;jj2001;jj7002;f02;", "first 0 = 2", "first 1 = 1", "years 1 = 1", "first 0 = 7", "first 1 = 1");
        // Not the least that is KNOWN, but the least of those that are not first.
        CHECKS.scriptOf("jj0009;jj8501;jj5501;f02;", "first 0 = 5", "first 1 = 1");
        // What is not KNOWN now is not forgotten; what another JAR still KEEPS is not either.
        CHECKS.scriptOf("jj3001;jj3009;jj5000;f01;", "first 0 = 3", "first 1 = 10");
        CHECKS.scriptOf("jb0001;f00;", "first 0 = 0", "first 1 = 1");
    }

    /** "HUNGRY: behind how many YEARS (1 .. 60) HUNGER is more first; -9". */
    private static void hungry() {
        CHECKS.scriptOf("f01;", "first 2 = 1", "years 5 = 0", "first 2 = 1", "folk 0 = 1", "first 2 = -9");
        CHECKS.scriptOf("jj9020;jj9020;jj9019;f01;", "first 2 = 60", "tell jj9001; = 1", "first 2 = -9", "hungerThen 60 = 0");
        CHECKS.scriptOf("jj9020;x0;", "first 2 = 1");
    }

    /** "BARE: behind how many YEARS (0 .. 60) no JAR has FOOD first; -9". */
    private static void bare() {
        CHECKS.scriptOf("jj9020;jj9020;jj9020;f01;", "first 3 = 60", "tell jj9001; = 1", "first 3 = -9", "tell f20; = 1", "first 3 = 4");
        CHECKS.scriptOf("jj9001;x0;", "first 3 = -9", "shuts 0 = 0", "first 3 = 1", "eats 0 1 = 0", "first 3 = 0");
    }

    /** "LASTS: behind how many YEARS (0 .. 60) a JAR has none first; -9". */
    private static void lasts() {
        CHECKS.scriptOf("jj9020;jj9020;jj9020;f01;", "lasts 0 = 20", "lasts 1 = 40", "lasts 2 = 60", "eats 0 0 = 20", "tell jj9001; = 1",
            "lasts 3 = -9", "lasts 2 = 60", "eats 0 1 = 19", "lasts 3 = 60", "eats 0 20 = 0", "lasts 0 = 0");
        CHECKS.scriptOf("jj9001;x0;", "lasts 0 = -9", "turn 0 2 0 = 9", "lasts 0 = 1");
    }

    /** "behind n YEARS (0 .. 30)", "at most a told number (0 .. 99)", "-9 there are none". */
    private static void shutBestAtItsBounds() {
        CHECKS.scriptOf("f09;", "shutBest 11 99 0 = 0", "shutBest 11 99 1 = 0", "shutBest 11 98 0 = -9", "shutBest 11 98 1 = -9",
            "shutBest 0 0 0 = 0", "shutBest 1 9 0 = 0", "shutBest 1 8 0 = -9", "folk 20 = 9", "shutBest 5 99 0 = -9");
        CHECKS.scriptOf("jj9020;jj9011;f01;", "shutBest 29 0 1 = 1", "shutBest 30 0 1 = 1", "eats 1 1 = 10", "shutBest 29 0 1 = 1",
            "shutBest 30 0 1 = 0", "shutBest 30 0 0 = 0", "shutBest 30 9 1 = 0", "shutBest 30 10 1 = 1", "shutBest 30 10 0 = 2",
            "shutBest 30 20 0 = 1", "shutBest 30 30 0 = 1");
        // HUNGER that there is already is not more.
        CHECKS.scriptOf("f20;y60;f09;", "shutBest 11 99 0 = 0", "shutBest 11 98 0 = -9");
    }

    /** "the JARS (bits; of several the least)", "SHUT (all others not) from now". */
    private static void shutBestOfSeveral() {
        // Eaten of is jar 0 of two CUSTOMS first; SHUT, it is one of the others. Sets 1 and 3 are as good.
        String hook = "jh1002;jj2002;jj3002;f01;";
        String[] before = {"", "x0;", "x1;", "x2;", "x0;x1;x2;"};
        for (String shut : before) {
            CHECKS.scriptOf(hook + shut, "shutBest 2 0 0 = 1", "shutBest 2 0 1 = 3", "shutBest 2 1 0 = 1", "shutBest 2 2 0 = 7",
                "shutBest 2 2 1 = 4", "shutBest 0 0 0 = 0", "shutBest 0 0 1 = 4");
        }
    }

    /** "most are KNOWN behind n YEARS (0 .. 30), more than else, of several the first; -9". */
    private static void moveAtItsBounds() {
        // Of the moves that are more the one of jar 1 is most, and SHELF 0 the first for it.
        CHECKS.scriptOf("jh1109;jb5306;f00;", "move 3 = 10", "move 2 = 0", "move 0 = 0", "move 6 = 0");
        CHECKS.scriptOf("jj0005;jh0005;f00;", "move 0 = 11", "moves 1 1 = 0", "move 0 = -9");
        // A floor that is eaten empty: jar 0 has nothing behind 30 YEARS of 1 where it lies, jar 1 has.
        CHECKS.scriptOf("jj0020;jj1011;f01;", "move 29 = -9", "move 30 = -9", "tell jj2001; = 1", "move 30 = -9");
        CHECKS.scriptOf("jj0520;jj0011;jj3220;f01;", "move 19 = -9", "move 20 = -9", "move 30 = -9", "tell x1; = 1", "move 30 = -9");
        CHECKS.scriptOf("jp0520;jh1120;f00;", "move 0 = 12", "move 19 = 12", "move 20 = 10", "move 30 = 10");
    }

    /** "the most FOLK (0 .. 20) with which it is KNOWN behind n YEARS (0 .. 30); -9". */
    private static void folkForAtItsBounds() {
        CHECKS.scriptOf("jj0020;jj9011;f07;", "folkFor 9 0 = 20", "folkFor 9 1 = 20", "folkFor 9 2 = 15", "folkFor 9 29 = 1",
            "folkFor 9 30 = 1", "folkFor 0 1 = 19", "folkFor 0 20 = 0", "folkFor 0 19 = 1", "eats 1 1 = 10", "folkFor 9 29 = 1",
            "folkFor 9 30 = 0", "folkFor 5 0 = -9", "count 3 = 7", "turn 1 2 9 = 9", "folkFor 9 9 = 2", "folkFor 9 10 = -9");
        CHECKS.scriptOf("jj9020;jj8020;", "folkFor 8 1 = 20", "folkFor 9 1 = 19", "shuts 0 = 1", "folkFor 9 30 = 20");
    }

    private static void only() {
        CHECKS.scriptOf("jj1001;jj1001;", "only = 0", "eats 0 1 = 0", "only = 2", "eats 1 1 = 0", "only = 0");
        CHECKS.scriptOf("jb1001;jj1001;x0;", "only = 1", "keepers 1 = 3", "keepers 2 = 1");
    }

    /** "the fewest JARS (bits, of several the least) with FOOD". */
    private static void fewest() {
        CHECKS.scriptOf("jj1000;jj1001;jj1001;", "fewest = 2", "eats 1 1 = 0", "fewest = 4", "eats 2 1 = 0", "fewest = 0");
        CHECKS.scriptOf("jj1001;jj2001;jj3001;jd1001;jb2001;jj9001;", "fewest = 12", "eats 2 1 = 0", "fewest = 24");
    }

    /** "of several the least; -9 none has FOOD"; "also one that KEEPS none alone, if there is no better one". */
    private static void dearest() {
        CHECKS.scriptOf("jj1000;jj1001;jj1001;", "dearest = 1", "eats 1 1 = 0", "dearest = 2", "eats 2 1 = 0", "dearest = -9");
        CHECKS.scriptOf("jj1001;jj1001;jj2001;jb3001;", "dearest = 3", "turn 3 3 2 = 33", "dearest = 3", "turn 3 0 2 = 32", "dearest = 0",
            "eats 3 1 = 0", "dearest = 2");
        // The first of most, though the others KEEP some alone, too.
        CHECKS.scriptOf("jj0000;jd2001;jb5001;jj0001;jd3001;", "dearest = 2", "eats 2 1 = 0", "dearest = 1", "turn 1 3 7 = 52",
            "dearest = 4", "eats 4 1 = 0", "dearest = 1", "turn 3 3 0 = 0", "dearest = 1", "eats 1 1 = 0", "dearest = 3");
    }

    /** "SHELF of most FOOD, of several the least; how much there is". */
    private static void fullest() {
        CHECKS.scriptOf("jj0104;jj0504;", "fullest 0 = 1", "fullest 1 = 4", "eats 0 1 = 3", "fullest 0 = 5", "moves 1 0 = 5",
            "fullest 0 = 0", "fullest 1 = 4", "eats 1 1 = 3", "fullest 0 = 0", "eats 1 3 = 0", "fullest 0 = 1", "eats 0 3 = 0",
            "fullest 0 = 0", "fullest 1 = 0");
    }

    /** "the least SHELF on which a JAR KEEPS it; -9". */
    private static void age() {
        CHECKS.scriptOf("jj1501;jj1001;jj1200;", "age 1 = 0", "eats 1 1 = 0", "age 1 = 5", "eats 0 1 = 0", "age 1 = -9", "age 2 = -9");
    }

    /** "the SHELF .., of several the least; how many". */
    private static void leak() {
        CHECKS.scriptOf("jj1001;jj2501;", "leak 0 = 0", "leak 1 = 1", "eats 0 1 = 0", "leak 0 = 5", "leak 1 = 0", "eats 1 1 = 0",
            "leak 0 = 0", "leak 1 = 0");
        // A SHELF on which all is KEPT elsewhere, too, is no worse than a SHELF without JARS.
        CHECKS.scriptOf("jj1301;jj1401;", "leak 0 = 0", "leak 1 = 1", "turn 1 3 1 = 1", "leak 0 = 4", "leak 1 = 1");
    }

    /** "for a new JAR with FOOD 9", "of several the least; -9 (9 there are); how many". */
    private static void fillAtItsBounds() {
        CHECKS.scriptOf("f00;", "fill 3 1 0 0 = 5", "fill 3 1 8 0 = 5", "fill 3 1 8 1 = 3", "fill 3 1 9 0 = 0", "fill 3 1 9 1 = 1",
            "fill 3 0 30 0 = 4", "fill 3 0 30 1 = 2", "fill 0 0 30 0 = 0", "fill 9 5 30 0 = 0", "fill 9 5 30 1 = 1", "count 0 = 0",
            "count 4 = 0");
        CHECKS.scriptOf("f01;", "fill 0 0 8 1 = 1", "fill 0 0 9 1 = 0", "fill 0 0 30 0 = 0");
        String eight = NINE.substring(0, 8 * 7);
        CHECKS.scriptOf(eight + "f00;", "fill 9 0 0 0 = 0", "fill 9 0 0 1 = 9", "fill 8 0 0 0 = 3", "fill 8 0 0 1 = 10",
            "tell jj8001; = 1", "fill 9 0 0 0 = -9", "fill 9 0 0 1 = -9", "fill 9 0 0 2 = -2", "count 12 = 1", "count 16 = 0");
    }

    /** "of a JAR that must KEEP 1 FOOD stays, the rest of it may be eaten". */
    private static void feast() {
        CHECKS.scriptOf("jj1001;", "feast = 0", "tell jj1001; = 1", "feast = 1", "tell jj2020; = 1", "feast = 20", "shuts 2 = 1", "feast = 1",
            "shuts 0 = 1", "feast = 1", "shuts 1 = 1", "feast = 0", "count 4 = 22");
        // A SHUT one without FOOD KEEPS nothing.
        CHECKS.scriptOf("jj1000;jj1005;x0;", "feast = 4", "tell jj1001;x2; = 2", "feast = 5");
    }

    /** "who eats of a JAR without FOOD has not eaten", "SHUT or not", "the first pair", "n YEARS (0 .. 30)". */
    private static void twoAtItsBounds() {
        CHECKS.scriptOf("jj0000;jj1000;", "two 0 1 0 = 0", "two 1 0 30 = 0", "tell jj2001; = 1", "two 0 2 0 = 1", "two 2 0 0 = 10",
            "shuts 2 = 1", "two 2 0 0 = 10", "two 0 2 0 = 1", "two 0 2 30 = 1");
        // Three CUSTOMS of her own are more than 2, two are not less: then the first pair is that of who fasts.
        CHECKS.scriptOf("jd2020;jd6020;f00;", "two 0 1 0 = 0", "two 0 1 19 = 0", "two 0 1 20 = 11", "two 0 1 30 = 11", "two 1 0 19 = 0");
        CHECKS.scriptOf("jh3020;jh5020;f00;x0;", "two 0 1 0 = 1", "two 0 1 30 = 1", "eats 1 20 = 0", "two 0 1 30 = 0", "two 1 0 30 = 0");
        CHECKS.scriptOf("jb3020;jb6020;f00;", "two 0 1 0 = 0", "two 0 1 19 = 0", "two 0 1 20 = 11", "count 4 = 40");
        // CUSTOMS by the KIND of a JAR without FOOD are wanted, too: hers are KEPT by the other one, unless that one eats.
        CHECKS.scriptOf("jd3000;jd3005;f00;", "two 0 1 0 = 0", "two 1 0 0 = 0");
    }

    /** "in each of n YEARS (0 .. 7)", "with odds 1 in t (2 .. 20)", "0 as 0 by 1", "in least terms". */
    private static void miceAtTheirBounds() {
        // One visit and it is gone: (19/20) to the 7th.
        CHECKS.scriptOf("jj1502;f00;", "mice 1 0 2 0 = 1", "mice 1 0 2 1 = 1", "mice 1 1 2 0 = 1", "mice 1 1 2 1 = 2", "mice 1 7 2 0 = 1",
            "mice 1 7 2 1 = 128", "mice 1 1 20 0 = 19", "mice 1 1 20 1 = 20", "mice 1 7 20 0 = 893871739", "mice 1 7 20 1 = 1280000000",
            "mice 1 2 3 0 = 4", "mice 1 2 3 1 = 9", "mice 2 7 20 0 = 0", "mice 2 7 20 1 = 1", "mice 2 0 20 1 = 1", "count 4 = 2");
        // Two visits of two YEARS, of 4 FOOD: 3/4 in least terms; of 14 FOOD seven of seven.
        CHECKS.scriptOf("jj1504;f00;", "mice 1 1 2 0 = 1", "mice 1 1 2 1 = 1", "mice 1 2 2 0 = 3", "mice 1 2 2 1 = 4", "mice 1 2 4 0 = 15",
            "mice 1 2 4 1 = 16");
        CHECKS.scriptOf("jj1514;f00;", "mice 1 6 2 1 = 1", "mice 1 7 2 0 = 127", "mice 1 7 2 1 = 128", "mice 1 7 20 0 = 1279999999");
        CHECKS.scriptOf("jj1515;f00;", "mice 1 7 2 0 = 1", "mice 1 7 2 1 = 1");
        // In least terms: 1 - 2/4 of what SPOILS but with mice.
        CHECKS.scriptOf("jp1503;f00;", "mice 1 2 2 0 = 1", "mice 1 2 2 1 = 4", "mice 1 3 2 0 = 0", "mice 1 3 2 1 = 1");
    }

    /** "each JAR on the floor (SHELF 5) has 2 FOOD less besides, ahead of it"; "to all JARS on the floor, or to none". */
    private static void miceOnTheFloor() {
        CHECKS.scriptOf("jj1401;jj2501;jj3502;jj4503;f00;", "mice 1 7 2 1 = 1", "mice 2 1 2 1 = 2", "mice 3 1 2 1 = 2", "mice 4 1 2 1 = 1",
            "mice 4 2 2 0 = 3", "mice 4 2 2 1 = 4");
        CHECKS.scriptOf("jj1502;x0;f00;", "mice 1 1 2 0 = 1", "mice 1 1 2 1 = 2");
        CHECKS.scriptOf("jj1502;jj1502;f00;", "mice 1 1 2 0 = 1", "mice 1 1 2 1 = 2", "moves 0 4 = 5", "mice 1 1 2 1 = 1");
        // Ahead of the YEAR: folk then eat of SHELF 4 what mice have taken of the floor.
        CHECKS.scriptOf("jj1502;jj2402;f02;", "mice 2 1 2 0 = 1", "mice 2 1 2 1 = 2", "mice 1 1 2 0 = 0", "mice 1 1 2 1 = 1");
    }

    /** "a fraction (0 by 1 of none)". */
    private static void mean() {
        CHECKS.scriptOf("jj1000;", "mean 0 = 0", "mean 1 = 1", "tell jj1001; = 1", "mean 0 = 1", "mean 1 = 2", "tell jj1001; = 1", "mean 0 = 2",
            "mean 1 = 3", "tell jj1001; = 1", "mean 0 = 3", "mean 1 = 4", "tell jj1020;x4; = 2", "mean 0 = 23", "mean 1 = 5", "eats 1 1 = 0",
            "eats 2 1 = 0", "eats 3 1 = 0", "mean 0 = 4", "mean 1 = 1", "mean 2 = 4000000000000000002");
    }

    /** "KINDS (bits) of it by which all of it is so; SHELVES (bits) on which it could be". */
    private static void whatWas() {
        CHECKS.scriptOf("jj1310;f00;", "whatWas 0 0 = 63", "whatWas 0 1 = 63", "row 10 = 1", "whatWas 0 0 = 63", "whatWas 0 1 = 63",
            "row 10 = 2", "whatWas 0 0 = 1", "whatWas 0 1 = 63", "clear = 2", "row 11 = 1", "whatWas 0 0 = 0", "whatWas 0 1 = 0",
            "clear = 1", "row 10 = 1", "row 8 = 2", "whatWas 0 0 = 8", "whatWas 0 1 = 0", "turn 0 3 1 = 1", "whatWas 0 1 = 56",
            "clear = 2", "row 10 = 1", "row 9 = 2", "whatWas 0 0 = 54", "whatWas 0 1 = 7", "turn 0 4 1 = 31", "whatWas 0 1 = 62",
            "clear = 2", "row 10 = 1", "row 10 = 2", "whatWas 0 0 = 1", "whatWas 0 1 = 1", "moves 0 0 = 3", "whatWas 0 0 = 19",
            "count 6 = 2", "jar 0 0 = 4", "jar 0 2 = 0");
    }

    /** "A ROW of numbers (0 .. 99; 16 at most)". */
    private static void rowAtItsBounds() {
        LarderAges x = Checks.larderOf("jp1020;f00;");
        CHECKS.script(x, "row 100 = -6", "row -1 = -4", "count 6 = 0");
        for (int i = 0; i < 15; i++) CHECKS.due("row", x.row(20 - i), i + 1);
        // The 16th number decides, too; there is no 17th.
        CHECKS.script(x, "row 5 = 16", "row 4 = -6", "row -1 = -4", "row 100 = -6", "count 6 = 16", "whatWas 0 0 = 44", "whatWas 0 1 = 63",
            "clear = 16", "clear = 0", "count 6 = 0");
        for (int i = 0; i < 15; i++) CHECKS.due("row", x.row(20 - i), i + 1);
        CHECKS.script(x, "row 6 = 16", "whatWas 0 0 = 0", "whatWas 0 1 = 0", "judge = 0", "count 6 = 0", "row 99 = 1", "row 0 = 2",
            "clear = 2", "row 98 = 1");
    }

    /** "JUDGED: how many CUSTOMS are KNOWN behind 0, 1, .. YEARS: the first that is not so; -9". */
    private static void judgeAtItsBounds() {
        CHECKS.scriptOf("jb1002;f00;", "judge = -9", "row 2 = 1", "row 2 = 2", "row 0 = 3", "row 0 = 4", "judge = -9", "count 6 = 0", "row 3 = 1",
            "judge = 0", "count 6 = 0", "row 2 = 1", "row 1 = 2", "row 1 = 3", "judge = 1", "judge = -9", "count 1 = 0", "count 4 = 2",
            "row 99 = 1", "judge = 0", "count 16 = 0");
        for (int last = 1; last <= 2; last++) {
            LarderAges x = Checks.larderOf("jj1020;f00;");
            for (int i = 0; i < 15; i++) CHECKS.due("row", x.row(1), i + 1);
            CHECKS.script(x, "row " + last + " = 16", "judge = " + (last == 1 ? -9 : 15), "clear = 0");
        }
    }

    /** "n centuries (1 .. 20)", "then 10 YEARS", "KNOWN (how many) of all together; HUNGER more". */
    private static void lotsAtItsBounds() {
        CHECKS.scriptOf("f20;", "lots 1 0 0 = 0", "lots 1 0 1 = 200", "lots 20 0 1 = 4000", "lots 0 0 1 = -4", "lots 21 0 1 = -6",
            "years 3 = 0", "lots 1 0 1 = 200", "count 2 = 60");
        // A SHUT one stays so: whatever FOOD is drawn, nothing is eaten of it.
        CHECKS.scriptOf("jj1000;x0;f01;", "lots 20 5 1 = 200", "lots 20 2147483647 1 = 200", "lots 20 -2147483648 1 = 200", "count 5 = 1");
    }

    /** "a SHELF and FOOD of one JAR, then of the next one"; "z becomes .. (an int); without its sign's bit by 256, cut". */
    private static void draws() {
        // HUNGER of 1 FOLK tells FOOD drawn below 10; a HOOK of FIGURE 9 KEEPS 9 and the SHELF that is drawn.
        int[] seeds = {0, 1, -1, 7, 255, 256, 1000003, 2147483647, -2147483648, -1013904223};
        for (int seed : seeds) {
            int[] drawn = drawn(seed, 4);
            int food = drawn[1] % 21 + drawn[3] % 21;
            LarderAges two = Checks.larderOf("jj1000;jj2000;f03;");
            CHECKS.due("FOOD by " + seed, two.lots(1, seed, 1), Math.max(0, 30 - food));
            LarderAges hooks = Checks.larderOf("jj9000;jh9000;f00;x0;x1;");
            boolean isKept = drawn[1] % 21 > 0;
            boolean isOnTop = drawn[2] % 6 == 0;
            int hook = drawn[3] % 21 > (isOnTop ? 0 : 10) ? 2 : 0;
            CHECKS.due("SHELF by " + seed, hooks.lots(1, seed, 0), Math.max(isKept ? 1 : 0, hook));
        }
        CHECKS.due("the first DRAW of 0", drawn(0, 1)[0], 1013904223 / 256);
    }

    /** Numbers of DRAWS one behind the other, ahead of the modulo. */
    private static int[] drawn(int seed, int many) {
        long z = seed;
        int[] drawn = new int[many];
        for (int i = 0; i < many; i++) {
            z = Math.floorMod(z * 1664525L + 1013904223L, 1L << 32);
            drawn[i] = (int) (z % (1L << 31) / 256);
        }
        return drawn;
    }

    /** "-3 there is none"; "all that there is, but it, the ROW, letters, REFUSALS". */
    private static void image() {
        CHECKS.scriptOf("jj1005;", "on = -3", "image = 0", "on = 0", "count 13 = 1", "years 1 = 1", "tell jj2009;x1;f09; = 3", "row 7 = 1",
            "letter 106 = 1", "on = 0", "count 0 = 1", "count 1 = 0", "count 3 = 3", "count 4 = 5", "count 5 = 0", "count 6 = 1", "count 7 = 1",
            "jar 1 0 = -1", "known = 2", "count 11 = 1", "on = 0", "count 11 = 1", "count 13 = 1", "years 2 = 0", "count 2 = 1",
            "image = 2", "on = 2", "count 2 = 1", "years 1 = 0", "count 2 = 4", "on = 2", "count 2 = 1", "count 4 = 0");
        // An image without JARS.
        CHECKS.scriptOf("", "image = 0", "tell jd9520;x0;y09; = 3", "on = 0", "count 0 = 0", "jar 0 0 = -1", "known = 0", "first 3 = 0",
            "tell jj0001; = 1", "jar 0 4 = 0", "jar 0 0 = 0", "known = 1");
    }
}
