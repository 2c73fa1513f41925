import java.lang.reflect.Method;
import java.util.Arrays;

/** Counts answers that are not due, and tells larders in letters. */
final class Checks {
    private int answers = 0;
    private int wrong = 0;

    void due(String call, long got, long want) {
        answers++;
        if (got == want) return;
        wrong++;
        System.out.println(call + " answered " + got + ", due is " + want);
    }

    /** Ends the test with exit code 1 if an answer was wrong. */
    void end() {
        System.out.println(answers + " answers, " + wrong + " not as due");
        if (wrong != 0) System.exit(1);
    }

    /** Lines as "eats 0 21 = -6": a call, its arguments, and the answer that is due. */
    void script(LarderAges x, String... lines) {
        for (int i = 0; i < lines.length; i++) {
            String[] halves = lines[i].split(" = ");
            due("line " + (i + 1) + " of " + lines[0] + " ..: " + halves[0], answer(x, halves[0]), Long.parseLong(halves[1]));
        }
    }

    /** A script on a new object that has become a larder; "" leaves it new. */
    void scriptOf(String larder, String... lines) {
        script(larder.isEmpty() ? new LarderAges() : larderOf(larder), lines);
    }

    /** The answer of a call told as "eats 0 21"; "tell jj0005;" tells a larder, "letters jj" only its letters. */
    static long answer(LarderAges x, String call) {
        String[] words = call.split(" ");
        if (words[0].equals("tell")) return tell(x, words[1]);
        if (words[0].equals("letters")) return letters(x, words[1]);
        Class<?>[] types = new Class<?>[words.length - 1];
        Arrays.fill(types, int.class);
        Object[] arguments = new Object[words.length - 1];
        for (int i = 0; i < arguments.length; i++) arguments[i] = Integer.valueOf(words[i + 1]);
        try {
            Method method = LarderAges.class.getMethod(words[0], types);
            return ((Number) method.invoke(x, arguments)).longValue();
        } catch (ReflectiveOperationException e) {
            throw new IllegalArgumentException(call, e);
        }
    }

    static int letters(LarderAges x, String text) {
        int many = 0;
        for (int i = 0; i < text.length(); i++) many = x.letter(text.charAt(i));
        return many;
    }

    static int tell(LarderAges x, String text) {
        letters(x, text);
        return x.larder();
    }

    static LarderAges larderOf(String text) {
        LarderAges x = new LarderAges();
        if (tell(x, text) < 0) throw new IllegalArgumentException("no larder: " + text);
        return x;
    }

    /** All that there is but the ROW, letters, the image and REFUSALS, as one text. */
    static String stateOf(LarderAges x) {
        StringBuilder state = new StringBuilder();
        for (int what = 0; what <= 5; what++) state.append(x.count(what)).append(' ');
        for (int jar = 0; jar < x.count(0); jar++) {
            for (int what = 0; what <= 6; what++) state.append(x.jar(jar, what)).append(' ');
        }
        return state.toString();
    }

    void same(String call, String after, String before) {
        answers++;
        if (after.equals(before)) return;
        wrong++;
        System.out.println(call + " changed " + before + "to " + after);
    }

    void sameState(String call, LarderAges x, String before) {
        same(call, stateOf(x), before);
    }
}
