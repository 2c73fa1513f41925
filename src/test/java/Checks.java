/** Counts answers that are not due, and tells larders in letters. */
final class Checks {
    private int answers = 0;
    private int wrong = 0;

    void due(String call, long got, long want) {
        answers++;
        if (got == want) return;
        wrong++;
        System.out.println(call + " answered " + got + ", due is " + want);
    }

    /** Ends the test with exit code 1 if an answer was wrong. */
    void end() {
        System.out.println(answers + " answers, " + wrong + " not as due");
        if (wrong != 0) System.exit(1);
    }

    static int tell(LarderAges x, String text) {
        for (int i = 0; i < text.length(); i++) x.letter(text.charAt(i));
        return x.larder();
    }

    static LarderAges larderOf(String text) {
        LarderAges x = new LarderAges();
        if (tell(x, text) < 0) throw new IllegalArgumentException("no larder: " + text);
        return x;
    }

    /** All that there is but the ROW, letters, the image and REFUSALS, as one text. */
    static String stateOf(LarderAges x) {
        StringBuilder state = new StringBuilder();
        for (int what = 0; what <= 5; what++) state.append(x.count(what)).append(' ');
        for (int jar = 0; jar < x.count(0); jar++) {
            for (int what = 0; what <= 6; what++) state.append(x.jar(jar, what)).append(' ');
        }
        return state.toString();
    }

    void sameState(String call, LarderAges x, String before) {
        answers++;
        String after = stateOf(x);
        if (after.equals(before)) return;
        wrong++;
        System.out.println(call + " changed " + before + "to " + after);
    }
}
