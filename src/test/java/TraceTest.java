import java.util.ArrayList;
import java.util.List;

/**
 * Promises 4 to 39: what is asked changes nothing and leaves no trace, whatever was asked ahead of it; what is on from an
 * image is as it was then, though there were more JARS, or SHUT ones, in between.
 */
public final class TraceTest {
    private static final Checks CHECKS = new Checks();
    private static final String MANY = "jd5120;jb8209;jh4312;jp2408;jc1507;jj7503;";
    private static final String[] QUESTIONS = {"known", "knownThen 3", "knownThen 60", "hungerThen 7", "first 0", "first 1", "first 2",
        "first 3", "shutBest 5 9 0", "shutBest 5 9 1", "move 0", "move 4", "folkFor 3 2", "folkFor 5 1", "only", "keepers 3",
        "fewest", "dearest", "fullest 0", "fullest 1", "age 3", "age 5", "leak 0", "leak 1", "fill 5 2 0 0", "fill 5 2 3 1", "feast",
        "mice 3 4 3 0", "mice 3 4 3 1", "mice 5 7 20 0", "mean 0", "mean 1", "lots 3 7 0", "lots 3 7 1", "jar 0 6", "foodThen 0 2",
        "lasts 0", "whatWas 0 0", "whatWas 0 1", "jar 1 6", "foodThen 1 2", "lasts 1", "whatWas 1 0", "whatWas 1 1", "two 0 1 3",
        "two 1 0 0", "count 0", "count 1", "count 2", "count 3", "count 4", "count 5", "count 6"};

    public static void main(String[] args) {
        askedFirst("");
        askedFirst("jb3505;jd5007;");
        askedFirst("jb3505;jd5007;f01;" + MANY + "jj7120;x3;x8;");
        onWithFewer("", "jb3505;jd5007;" + MANY + "jj0120;x0;x8;f20;y01;");
        onWithFewer("jb3505;jd5007;f01;", MANY + "jj0120;x0;x2;x8;f20;y02;");
        onWithFewer("jb3505;jd5007;x1;y02;", "m15;e09;x0;x1;" + MANY + "f00;y60;");
        CHECKS.end();
    }

    private static LarderAges made(String larder) {
        LarderAges x = larder.isEmpty() ? new LarderAges() : Checks.larderOf(larder);
        x.row(x.foodThen(0, 0) < 0 ? 0 : x.foodThen(0, 0));
        x.row(5);
        return x;
    }

    private static String answersOf(LarderAges x) {
        List<String> answers = new ArrayList<>();
        for (String question : QUESTIONS) answers.add(question + " = " + Checks.answer(x, question));
        return String.join(", ", answers);
    }

    /** Each question on an object of its own, and all on one, forth and back again. */
    private static void askedFirst(String larder) {
        List<String> alone = new ArrayList<>();
        for (String question : QUESTIONS) alone.add(question + " = " + Checks.answer(made(larder), question));
        LarderAges x = made(larder);
        String before = Checks.stateOf(x);
        CHECKS.same("asking", answersOf(x), String.join(", ", alone));
        for (int i = QUESTIONS.length - 1; i >= 0; i--) Checks.answer(x, QUESTIONS[i]);
        CHECKS.same("asking again", answersOf(x), String.join(", ", alone));
        CHECKS.sameState("asking", x, before);
    }

    private static void onWithFewer(String larder, String between) {
        String before = answersOf(made(larder));
        LarderAges x = made(larder);
        CHECKS.due("image", x.image(), x.count(1));
        CHECKS.due("told", Checks.tell(x, between) > 0 ? 1 : 0, 1);
        answersOf(x);
        CHECKS.due("on", x.on(), x.count(1));
        CHECKS.same("on", answersOf(x), before);
        // Another JAR in the place of one that is gone is not SHUT.
        int shut = x.count(5);
        CHECKS.script(x, "tell jj0001; = 1", "count 5 = " + shut);
        CHECKS.due("on again", x.on(), x.count(1));
        CHECKS.same("on again", answersOf(x), before);
    }
}
