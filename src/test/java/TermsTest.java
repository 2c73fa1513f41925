/** The bounds under "Terms", part I: what a larder, its letters and a YEAR may be; the value on each side of each bound. */
public final class TermsTest {
    private static final Checks CHECKS = new Checks();
    private static final String EIGHT = "jj0001;jj1001;jj2001;jj3001;jj4001;jj5001;jj6001;jj7001;";
    private static final String ELEVEN_TIMES = "x8;x8;x8;x8;x8;x8;x8;x8;x8;x8;x8;";
    /** The letters that may stand for ";", a KIND "k" and a digit "0" of a STATEMENT. */
    private static final String[] SIGNS = {";", "jcpbhd", "0123456789"};

    public static void main(String[] args) {
        atFirst();
        shelves();
        jarsAtMost();
        figures();
        food();
        customs();
        folk();
        hunger();
        yearsAtMost();
        lettersAtMost();
        yearsTold();
        eachLetterAtEachPlace();
        lettersAheadOfSense();
        theFirstOfSeveral();
        behindAllAheadOfIt();
        jarsToldAtOnce();
        allOrNothing();
        nothingIsCounted();
        kindsAtTheirShelves();
        kindsAtTheirFigures();
        foodKeeps();
        spoiledAndEaten();
        whoIsEatenOf();
        CHECKS.end();
    }

    /** "(0; not at first; 3 at first)": a new object, and a JAR as it comes. */
    private static void atFirst() {
        CHECKS.scriptOf("", "count 0 = 0", "count 1 = 0", "count 2 = 0", "count 3 = 3", "count 4 = 0", "count 5 = 0",
            "count 6 = 0", "count 7 = 0", "known = 0", "on = -3", "larder = -1000", "jar 0 0 = -1");
        CHECKS.scriptOf("jd9520;", "jar 0 4 = 0", "count 5 = 0", "count 2 = 0", "count 1 = 0", "count 3 = 3");
    }

    /** "SHELVES 0 .. 5 (0 the top, 5 the floor)". */
    private static void shelves() {
        CHECKS.scriptOf("", "tell jh3001; = 1", "tell jh3501; = 1", "tell jh3601; = -2000", "tell jh3901; = -2000",
            "count 0 = 2", "jar 0 2 = 0", "jar 1 2 = 5", "tell m05; = 1", "tell m06; = -2000", "tell m00; = 1", "tell m09; = -2000",
            "moves 0 5 = 0", "moves 0 6 = -1", "moves 0 -1 = -1", "moves 0 0 = 5", "jar 0 2 = 0", "known = 41");
        CHECKS.scriptOf("f00;", "fill 3 0 0 1 = 3", "fill 3 5 0 1 = 3", "fill 3 6 0 1 = -1", "fill 3 -1 0 1 = -1");
        // The floor is eaten of first, the top last.
        CHECKS.scriptOf("jj0003;jj1503;", "years 1 = 1", "known = 1", "years 1 = 0");
    }

    /** "JARS 0 .. as they come (9 at most)". */
    private static void jarsAtMost() {
        CHECKS.scriptOf(EIGHT, "count 0 = 8", "jar 8 0 = -1", "tell jj8001;jj9001; = -2007", "count 0 = 8", "tell jj8001; = 1",
            "count 0 = 9", "jar 8 1 = 8", "jar 9 0 = -1", "tell jj9001; = -2000", "count 0 = 9", "known = 511",
            "tell m85;x8;e81; = -2007", "tell e81;m85;x8; = 3", "jar 8 3 = 0", "jar 8 2 = 5", "jar 8 4 = 1", "tell m95; = -2000",
            "tell x9; = -2000", "tell e90; = -2000");
        // "no such JAR so far": the last one is, the one behind it is not.
        CHECKS.scriptOf("jj0005;jj1005;", "tell m10; = 1", "tell m20; = -2000", "tell x1; = 1", "tell x2; = -2000", "tell x1; = 1",
            "tell e10; = 1", "tell e20; = -2000", "jar 1 0 = 0", "jar 2 0 = -1",
            "tell m30; = -2000", "tell x5; = -2000", "tell e80; = -2000", "jar 8 0 = -1");
        CHECKS.scriptOf("", "tell m00; = -2000", "tell x0; = -2000", "tell e00; = -2000");
    }

    /** "FIGURE (0 .. 9)". */
    private static void figures() {
        CHECKS.scriptOf("jj0001;jj9001;", "jar 0 1 = 0", "jar 1 1 = 9", "known = 513", "turn 0 0 9 = 0", "turn 0 0 10 = -6",
            "turn 0 0 -1 = -4", "turn 0 0 0 = 9", "known = 513");
        CHECKS.scriptOf("f00;", "fill 0 3 0 1 = 3", "fill 9 3 0 1 = 2", "fill 10 3 0 1 = -6", "fill -1 3 0 1 = -4");
    }

    /** "FOOD (0 .. 20)". */
    private static void food() {
        CHECKS.scriptOf("", "tell jj0000; = 1", "tell jj0001; = 1", "tell jj0020; = 1", "tell jj0021; = -2000", "tell jj0099; = -2000",
            "count 0 = 3", "count 4 = 21", "jar 0 3 = 0", "jar 2 3 = 20", "eats 2 21 = -6", "eats 2 -1 = -4", "eats 2 0 = 20",
            "eats 2 19 = 1", "eats 2 20 = 0", "eats 2 1 = 0", "eats 0 20 = 0");
        // "all, if there is less", in letters, too.
        CHECKS.scriptOf("jj0009;jj0008;jj0010;", "tell e09;e19;e29; = 3", "jar 0 3 = 0", "jar 1 3 = 0", "jar 2 3 = 1");
    }

    /** "CUSTOMS 0 .. 9". */
    private static void customs() {
        CHECKS.scriptOf("jb9005;", "known = 513", "keepers 0 = 1", "keepers 9 = 1", "keepers 10 = -1", "keepers -1 = -1",
            "age 0 = 0", "age 9 = 0", "age 10 = -1", "age -1 = -1", "folkFor 0 0 = 20", "folkFor 9 0 = 20", "folkFor 10 0 = -1",
            "folkFor -1 0 = -1", "mice 0 0 2 0 = 1", "mice 9 0 2 0 = 1", "mice 10 0 2 0 = 4000000000000000001",
            "mice -1 0 2 0 = 4000000000000000001");
    }

    /** "FOLK (0 .. 20; 3 at first)". */
    private static void folk() {
        CHECKS.scriptOf("", "count 3 = 3", "folk 20 = 3", "folk 21 = -6", "folk -1 = -4", "folk 0 = 20", "folk 1 = 0", "count 3 = 1",
            "tell f20; = 1", "count 3 = 20", "tell f21; = -2000", "tell f99; = -2000", "count 3 = 20", "tell f00; = 1", "count 3 = 0");
    }

    /** "HUNGER (0 .. 9999)", "9999 at most". */
    private static void hunger() {
        LarderAges x = new LarderAges();
        CHECKS.script(x, "folk 20 = 3");
        for (int i = 0; i < 8; i++) CHECKS.script(x, "years 60 = 0");
        CHECKS.script(x, "years 19 = 0", "count 2 = 9980", "image = 499", "folk 18 = 20", "years 1 = 0", "count 2 = 9998",
            "folk 1 = 18", "hungerThen 1 = 1", "hungerThen 2 = 1", "years 1 = 0", "count 2 = 9999", "hungerThen 1 = 0",
            "years 1 = 0", "count 2 = 9999", "on = 499", "folk 19 = 20", "years 1 = 0", "count 2 = 9999", "on = 499",
            "hungerThen 1 = 19", "years 1 = 0", "count 2 = 9999", "on = 499", "tell y60; = 1", "count 2 = 9999", "first 2 = -9",
            "shutBest 30 0 0 = 0", "lots 20 7 1 = 0");
    }

    /** "YEAR (0 .. 999)": neither years nor letters go beyond it. */
    private static void yearsAtMost() {
        LarderAges x = new LarderAges();
        for (int i = 0; i < 16; i++) CHECKS.script(x, "years 60 = 0");
        CHECKS.script(x, "count 1 = 960", "image = 960", "years 40 = -6", "years 60 = -6", "count 1 = 960", "years 39 = 0",
            "count 1 = 999", "years 1 = -6", "years 0 = -4", "tell y01; = -2000", "tell f03;y01; = -2004", "on = 960",
            "tell y40; = -2000", "tell y38;y02; = -2004", "count 1 = 960", "tell y38;y01; = 2", "count 1 = 999", "on = 960",
            "years 38 = 0", "years 2 = -6", "years 1 = 0", "count 1 = 999");
        String all = "y60;y60;y60;y60;y60;y60;y60;y60;y60;y60;y60;y60;y60;y60;y60;y60;";
        CHECKS.scriptOf("", "tell " + all + "y40; = -2064", "count 1 = 0", "tell " + all + "y39;y01; = -2068",
            "count 1 = 0", "tell " + all + "y39; = 17", "count 1 = 999");
    }

    /** "told in letters, one by one (96 at most)": a LARDER of 96 letters comes, the 97th does not. */
    private static void lettersAtMost() {
        String nine = EIGHT + "jj8001;";
        CHECKS.scriptOf("", "letters " + nine + ELEVEN_TIMES + " = 96", "count 7 = 96", "letter 59 = -6", "letter 0 = -6",
            "count 7 = 96", "larder = 20", "count 0 = 9", "count 5 = 256", "count 7 = 0", "letter 255 = 1", "letter 0 = 2",
            "larder = -1000", "count 7 = 0");
        // What the 97th letter would have ended is not ended.
        String ninetyFour = EIGHT + "x0;x0;x0;x0;x0;x0;x0;x0;x0;x0;x0;x0;f0";
        CHECKS.scriptOf("", "letters " + ninetyFour + " = 94", "letter 51 = 95", "letter 59 = 96", "letter 59 = -6", "larder = 21",
            "letters " + ELEVEN_TIMES + ELEVEN_TIMES + " = 66", "letters x8;x8;x8;x8;x8;x8;x8;x8;x8;x8; = 96", "larder = -2000");
    }

    /** "YEARS (2 digits, 1 .. 60)". */
    private static void yearsTold() {
        CHECKS.scriptOf("", "tell y00; = -2000", "tell y61; = -2000", "tell y99; = -2000", "count 1 = 0", "tell y01; = 1",
            "count 1 = 1", "tell y60; = 1", "count 1 = 61", "tell y60;y00; = -2004", "count 1 = 61", "count 2 = 183");
    }

    /** Each of the 256 letters at each place: "the place of the first letter with which no LARDER can go on (the end)". */
    private static void eachLetterAtEachPlace() {
        String[] forms = {"jk0000;", "m00;", "x0;", "f00;", "e00;", "y00;"};
        for (String form : forms) {
            for (int place = 0; place < form.length(); place++) {
                // Of digits 1 fits every STATEMENT where a 0 does not.
                String ahead = form.substring(0, place).replace('0', '1').replace('k', 'j');
                String goOn = place == 0 ? "jmxfey" : SIGNS[";k0".indexOf(form.charAt(place))];
                for (int c = 0; c <= 255; c++) {
                    boolean goesOn = goOn.indexOf(c) >= 0;
                    int fault = goesOn ? -1000 - place - 1 : -1000 - place;
                    boolean isWhole = goesOn && c == ';';
                    CHECKS.due(ahead + " and " + c, told(ahead, c), isWhole ? 1 : fault);
                    CHECKS.due("x0;" + ahead + " and " + c, told("x0;" + ahead, c), isWhole ? 2 : fault - 3);
                }
            }
        }
    }

    /** The answer of a larder of two JARS that is told a text and one letter more. */
    private static long told(String text, int c) {
        LarderAges x = Checks.larderOf("jj0005;jj0005;");
        Checks.letters(x, text);
        x.letter(c);
        return x.larder();
    }

    /** "FAULT: kind 1 ..; else kind 2": a letter behind comes ahead of a STATEMENT that is not as it must be. */
    private static void lettersAheadOfSense() {
        CHECKS.scriptOf("", "tell x0;x = -1004", "tell x0;q = -1003", "tell jj0621;j = -1008", "tell jx9999; = -1001",
            "tell jj9999 = -1006", "tell jj9999; = -2000", "tell y00;y0; = -1006", "tell y00;y00; = -2000");
        // "something lacks": the end, which is behind the last letter.
        CHECKS.scriptOf("", "tell j = -1001", "tell jj = -1002", "tell jj0 = -1003", "tell jj00 = -1004", "tell jj000 = -1005",
            "tell jj0000 = -1006", "tell f03;f0 = -1006", "tell f03;f03 = -1007");
        String ninetyTwo = "f03;f03;f03;f03;f03;f03;f03;f03;f03;f03;f03;f03;f03;f03;f03;f03;f03;f03;f03;f03;f03;f03;f03;";
        CHECKS.scriptOf("", "tell " + ninetyTwo + "f03; = 24", "tell " + ninetyTwo + "f03: = -1095", "tell " + ninetyTwo + "jj00 = -1096");
    }

    /** "the first letter of the first STATEMENT". */
    private static void theFirstOfSeveral() {
        CHECKS.scriptOf("jj0005;", "tell f21;x9;m99; = -2000", "tell f20;x9;m99; = -2004", "tell f20;x0;m99;y00; = -2007",
            "tell f20;x0;m05;y00; = -2011", "tell f20;x0;m05;y01; = 4", "tell q;q; = -1000", "tell x0;q;q; = -1003");
    }

    /** "behind all ahead of it in the text". */
    private static void behindAllAheadOfIt() {
        CHECKS.scriptOf("", "tell m05;jj0005; = -2000", "tell jj0005;m05; = 2", "jar 0 2 = 5", "tell x1;jj0005; = -2000",
            "tell jj0005;x1;x1; = 3", "count 5 = 0", "tell e21;jj0005; = -2000", "tell jj0005;e21; = 2", "jar 2 3 = 4");
        // FOOD is eaten of a SHUT one, be it 0 of none; told again it is not SHUT.
        CHECKS.scriptOf("jj0005;", "tell x0;e01; = -2003", "tell x0;e00; = -2003", "tell x0;x0;e01; = 3", "jar 0 3 = 4",
            "tell e04;x0;e00; = -2007", "jar 0 3 = 4", "tell x0; = 1", "tell e01;x0; = -2000", "tell x0;e01; = 2", "jar 0 3 = 3");
        CHECKS.scriptOf("", "tell x0; = -2000", "tell jj0005;y01;e01;f00;y01; = 5", "jar 0 3 = 1", "count 1 = 2", "count 2 = 0");
    }

    /** "no room for more": the tenth JAR told, in one text or in two. */
    private static void jarsToldAtOnce() {
        CHECKS.scriptOf("", "tell " + EIGHT + "jj8001;jj9001; = -2063", "count 0 = 0", "tell " + EIGHT + "jj8001; = 9",
            "tell x8;jj9001; = -2003", "count 5 = 0", "known = 511");
    }

    /** "Without FAULT all of it comes, with one nothing": of either kind; letters are no more. */
    private static void allOrNothing() {
        String all = "jd9520;m05;x0;f07;e12;y03;";
        String[] ends = {"x9;", "y61;", "q", "x", "f21;"};
        for (String end : ends) {
            LarderAges x = Checks.larderOf("jj0005;jc3112;f04;y01;");
            String before = Checks.stateOf(x);
            CHECKS.due("a FAULT behind all", Checks.tell(x, all + end) < 0 ? 1 : 0, 1);
            CHECKS.sameState(all + end, x, before);
            CHECKS.script(x, "count 7 = 0", "larder = -1000", "tell f05; = 1");
        }
        CHECKS.scriptOf("jj0005;jc3112;f04;y01;", "tell " + all + " = 6", "count 0 = 3", "jar 0 2 = 5", "count 5 = 1", "count 3 = 7",
            "count 1 = 4", "jar 1 3 = 2", "jar 2 3 = 0", "count 2 = 0", "jar 0 3 = 5");
    }

    /** "the FAULT (nothing is counted)": of neither kind, nor -9. */
    private static void nothingIsCounted() {
        LarderAges x = new LarderAges();
        String[] faults = {"q", "j", "x0;", "y00;", "y61;", "f21;", "jj0600;", "jj0021;", "m00;", "e00;"};
        for (String fault : faults) CHECKS.due("a FAULT of " + fault, Checks.tell(x, fault) < 0 ? 1 : 0, 1);
        CHECKS.script(x, "larder = -1000", "first 0 = -9", "dearest = -9", "age 0 = -9", "count 8 = -9", "judge = -9", "move 0 = -9");
        CHECKS.script(x, "count 11 = 0", "count 12 = 0", "count 13 = 0", "count 14 = 0", "count 15 = 0", "count 16 = 0");
    }

    /** "1, if its SHELF is 3 or more", "1 less, if its SHELF is 0". */
    private static void kindsAtTheirShelves() {
        CHECKS.scriptOf("jj0205;jc0205;jp0205;jb0205;jh0205;jd0205;", "jar 0 5 = 0", "jar 1 5 = 0", "jar 2 5 = 1", "jar 3 5 = 1",
            "jar 4 5 = 1", "jar 5 5 = 1", "moves 1 3 = 2", "jar 1 5 = 1", "moves 3 3 = 2", "jar 3 5 = 2", "moves 4 1 = 2",
            "jar 4 5 = 1", "moves 4 0 = 1", "jar 4 5 = 0", "moves 2 0 = 2", "jar 2 5 = 1", "moves 5 5 = 2", "jar 5 5 = 1",
            "moves 0 5 = 2", "jar 0 5 = 0", "moves 5 0 = 5", "jar 5 5 = 1", "moves 3 0 = 3", "jar 3 5 = 1");
    }

    /** "(behind 9 comes 0)", "and 9", "FIGURE and the SHELF". */
    private static void kindsAtTheirFigures() {
        CHECKS.scriptOf("jb8001;jb9001;jd7001;jd8001;jd9001;jh0001;jh5501;jh9501;", "jar 0 6 = 768", "jar 1 6 = 513", "jar 2 6 = 896",
            "jar 3 6 = 768", "jar 4 6 = 513", "jar 5 6 = 1", "jar 6 6 = 32", "jar 7 6 = 544", "turn 0 3 0 = 38", "jar 0 6 = 3");
    }

    /** "KEEPS (as long as it has FOOD)": 1 is enough, 0 is not. */
    private static void foodKeeps() {
        CHECKS.scriptOf("jd3002;", "eats 0 1 = 1", "jar 0 6 = 536", "known = 536", "eats 0 1 = 0", "jar 0 6 = 0", "known = 0",
            "keepers 3 = 0", "age 3 = -9", "only = 0");
    }

    /** "(0 FOOD at least; SHUT ones, too)", "as far as there is any", "as lacks". */
    private static void spoiledAndEaten() {
        CHECKS.scriptOf("jb0501;jb0502;jb0503;x0;x1;x2;f00;", "years 1 = 2", "jar 0 3 = 0", "jar 1 3 = 0", "jar 2 3 = 1", "count 2 = 0",
            "years 1 = 0", "count 4 = 0", "count 2 = 0");
        CHECKS.scriptOf("jj0003;", "years 1 = 0", "count 2 = 0", "years 1 = 0", "count 2 = 3");
        CHECKS.scriptOf("jj0004;", "years 1 = 1", "count 2 = 0", "jar 0 3 = 1", "years 1 = 0", "count 2 = 2");
        CHECKS.scriptOf("jj0002;", "years 1 = 0", "count 2 = 1");
        CHECKS.scriptOf("jj0020;f20;", "years 1 = 0", "count 2 = 0", "years 1 = 0", "count 2 = 20");
        CHECKS.scriptOf("jj0020;x0;", "years 1 = 1", "count 2 = 3", "jar 0 3 = 20");
        // It SPOILS first: of 3 there are 2 to be eaten.
        CHECKS.scriptOf("jp0003;", "years 1 = 0", "count 2 = 1");
    }

    /** "on the greatest SHELF, of several the least, that is not SHUT and has FOOD". */
    private static void whoIsEatenOf() {
        CHECKS.scriptOf("jj0405;jj1505;jj2505;f01;", "years 1 = 3", "jar 1 3 = 4", "shuts 1 = 1", "years 1 = 3", "jar 2 3 = 4",
            "shuts 2 = 1", "years 1 = 3", "jar 0 3 = 4", "shuts 1 = 0", "eats 1 20 = 0", "years 1 = 2", "jar 0 3 = 3", "jar 2 3 = 4");
        CHECKS.scriptOf("jj0002;jj1502;jj2402;jj3502;f07;", "years 1 = 1", "jar 0 3 = 1", "count 2 = 0");
    }
}
