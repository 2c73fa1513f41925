import java.util.ArrayList;
import java.util.List;

/**
 * Promises 2 to 39: what is asked changes nothing and leaves no trace, whatever was asked ahead of it; each call changes
 * just what it tells; what is on from an image is as it was then, though there were more JARS, or SHUT ones, in between.
 */
public final class TraceTest {
    private static final Checks CHECKS = new Checks();
    private static final String MANY = "jd5120;jb8209;jh4312;jp2408;jc1507;jj7503;";
    private static final String[] QUESTIONS = {"known", "knownThen 3", "knownThen 60", "hungerThen 7", "first 0", "first 1", "first 2",
        "first 3", "shutBest 5 9 0", "shutBest 5 9 1", "move 0", "move 4", "folkFor 3 2", "folkFor 5 1", "only", "keepers 3",
        "fewest", "dearest", "fullest 0", "fullest 1", "age 3", "age 5", "leak 0", "leak 1", "fill 5 2 0 0", "fill 5 2 3 1", "feast",
        "mice 3 4 3 0", "mice 3 4 3 1", "mice 5 7 20 0", "mean 0", "mean 1", "lots 3 7 0", "lots 3 7 1", "jar 0 6", "foodThen 0 2",
        "lasts 0", "whatWas 0 0", "whatWas 0 1", "jar 1 6", "foodThen 1 2", "lasts 1", "whatWas 1 0", "whatWas 1 1", "two 0 1 3",
        "two 1 0 0", "count 0", "count 1", "count 2", "count 3", "count 4", "count 5", "count 6"};

    public static void main(String[] args) {
        askedFirst("");
        askedFirst("jb3505;jd5007;");
        askedFirst("jb3505;jd5007;f01;" + MANY + "jj7120;x3;x8;");
        onWithFewer("", "jb3505;jd5007;" + MANY + "jj0120;x0;x8;f20;y01;");
        onWithFewer("jb3505;jd5007;f01;", MANY + "jj0120;x0;x2;x8;f20;y02;");
        onWithFewer("jb3505;jd5007;x1;y02;", "m15;e09;x0;x1;" + MANY + "f00;y60;");
        changesNoMore();
        CHECKS.end();
    }

    private static LarderAges made(String larder) {
        LarderAges x = larder.isEmpty() ? new LarderAges() : Checks.larderOf(larder);
        x.row(x.foodThen(0, 0) < 0 ? 0 : x.foodThen(0, 0));
        x.row(5);
        return x;
    }

    private static String answersOf(LarderAges x) {
        List<String> answers = new ArrayList<>();
        for (String question : QUESTIONS) answers.add(question + " = " + Checks.answer(x, question));
        return String.join(", ", answers);
    }

    /** Each question on an object of its own, and all on one, forth and back again. */
    private static void askedFirst(String larder) {
        List<String> alone = new ArrayList<>();
        for (String question : QUESTIONS) alone.add(question + " = " + Checks.answer(made(larder), question));
        LarderAges x = made(larder);
        String before = Checks.stateOf(x);
        CHECKS.same("asking", answersOf(x), String.join(", ", alone));
        for (int i = QUESTIONS.length - 1; i >= 0; i--) Checks.answer(x, QUESTIONS[i]);
        CHECKS.same("asking again", answersOf(x), String.join(", ", alone));
        CHECKS.sameState("asking", x, before);
    }

    /** What a call does, and all that it does: the one jar 1 is SHUT, and letters and a ROW wait. */
    private static void changesNoMore() {
        changes("moves 0 2", "jar 0 2", "jar 0 6", "known");
        changes("moves 1 4", "jar 1 2");
        changes("shuts 0", "jar 0 4", "count 5");
        changes("shuts 1", "jar 1 4", "count 5");
        changes("eats 0 3", "jar 0 3", "count 4");
        changes("eats 0 20", "jar 0 3", "jar 0 6", "count 4", "known");
        changes("eats 0 0");
        changes("folk 7", "count 3");
        changes("turn 0 5 8", "jar 0 0", "jar 0 1", "jar 0 6", "known");
        changes("turn 1 3 8", "jar 1 0", "jar 1 1", "jar 1 5", "jar 1 6", "known");
        changes("years 1", "jar 0 3", "count 1", "count 4");
        changes("years 3", "jar 0 3", "jar 0 6", "count 1", "count 2", "count 4", "known");
        changes("letter 106", "count 7");
        changes("larder", "count 7", "count 3", "jar 1 2", "count 5", "jar 0 4");
        changes("row 7", "count 6");
        changes("clear", "count 6");
        changes("judge", "count 6");
        changes("image");
        changes("on", "jar 0 3", "count 4");
        changes("jar 2 0", "count 11");
        changes("first 4", "count 12");
        changes("eats 1 0", "count 13");
        changes("row -1", "count 14");
        changes("folk 21", "count 16");
        String[] quiet = {"moves 1 4", "shuts 0", "eats 0 3", "folk 7", "turn 0 5 8", "years 1", "row 7", "clear", "judge", "image", "on"};
        for (String call : quiet) {
            LarderAges x = waiting();
            Checks.answer(x, call);
            CHECKS.script(x, "count 7 = 11", "larder = 3", "count 3 = 9", "jar 1 2 = 5");
        }
        String[] besideTheRow = {"shuts 1", "eats 0 0", "folk 7", "letter 106", "larder", "image", "whatWas 0 0", "whatWas 0 1"};
        for (String call : besideTheRow) {
            LarderAges x = waiting();
            Checks.answer(x, call);
            CHECKS.script(x, "count 6 = 2", "folk 0 = " + x.count(3), "moves 0 0 = 5", "whatWas 0 0 = 44", "judge = 0");
        }
    }

    private static LarderAges waiting() {
        LarderAges x = Checks.larderOf("jh3507;jj4320;x1;f02;");
        x.image();
        Checks.answer(x, "eats 0 1");
        Checks.letters(x, "f09;m15;x0;");
        x.row(6);
        x.row(5);
        return x;
    }

    /** The call changes just what is told of it. */
    private static void changes(String call, String... told) {
        LarderAges x = waiting();
        List<String> questions = new ArrayList<>(List.of("known"));
        for (int what = 0; what <= 16; what++) questions.add("count " + what);
        for (int what = 0; what <= 13; what++) questions.add("jar " + what / 7 + " " + what % 7);
        List<Long> before = new ArrayList<>();
        for (String question : questions) before.add(Checks.answer(x, question));
        Checks.answer(x, call);
        for (int i = 0; i < before.size(); i++) {
            boolean isTold = List.of(told).contains(questions.get(i));
            boolean isOther = Checks.answer(x, questions.get(i)) != before.get(i);
            CHECKS.due(call + " changes " + questions.get(i), isOther ? 1 : 0, isTold ? 1 : 0);
        }
    }

    private static void onWithFewer(String larder, String between) {
        String before = answersOf(made(larder));
        LarderAges x = made(larder);
        CHECKS.due("image", x.image(), x.count(1));
        CHECKS.due("told", Checks.tell(x, between) > 0 ? 1 : 0, 1);
        answersOf(x);
        CHECKS.due("on", x.on(), x.count(1));
        CHECKS.same("on", answersOf(x), before);
        // Another JAR in the place of one that is gone is not SHUT.
        int shut = x.count(5);
        CHECKS.script(x, "tell jj0001; = 1", "count 5 = " + shut);
        CHECKS.due("on again", x.on(), x.count(1));
        CHECKS.same("on again", answersOf(x), before);
    }
}
