import java.lang.reflect.Method;
import java.util.ArrayList;
import java.util.Arrays;
import java.util.List;
import java.util.Random;

/** Runs of calls by lot (always the same): LarderAges answers as PlainLarder does. */
public final class RandomRunsTest {
    private static final int RUNS = 400;
    private static final int CALLS = 512;
    private static final String[] SHARED = {"jcpbhd", "0123456789", "012345"};
    /** Each call with the greatest arguments that are not refused, by parameter: least, greatest. */
    private static final String[] CALLS_TOLD = {
        "jar j 0-6", "known", "moves j 0-5", "shuts j", "eats j 0-20", "folk 0-20", "turn j 0-5 0-9", "years 1-60",
        "years 1-3", "knownThen 0-60", "foodThen j 0-60", "hungerThen 0-60", "first 0-3", "lasts j",
        "shutBest 0-30 0-99 0-1", "move 0-30", "folkFor 0-9 0-30", "only", "keepers 0-9", "fewest", "dearest",
        "fullest 0-1", "age 0-9", "leak 0-1", "fill 0-9 0-5 0-30 0-1", "feast", "two j j 0-30", "mice 0-9 0-7 2-20 0-1",
        "mean 0-1", "whatWas j 0-1", "row 0-99", "judge", "clear", "lots 1-20 z 0-1", "image", "on", "count 0-16",
        "knownThen 0-5", "move 0-4", "fill 0-9 0-5 0-4 0-1", "two j j 0-4", "shutBest 0-8 0-30 0-1", "mice 0-9 0-5 2-6 0-1"};

    private final Random random;
    private final LarderAges real = new LarderAges();
    private final PlainLarder plain = new PlainLarder();
    private final List<String> calls = new ArrayList<>();

    private RandomRunsTest(long seed) {
        random = new Random(seed);
    }

    public static void main(String[] args) throws ReflectiveOperationException {
        int wrong = 0;
        for (int run = 0; run < RUNS; run++) {
            if (!new RandomRunsTest(run).isAsPlain()) {
                System.out.println("run " + run + " is not as the plain larder");
                wrong++;
            }
        }
        System.out.println(RUNS + " runs, " + wrong + " not as due");
        if (wrong != 0) System.exit(1);
    }

    private boolean isAsPlain() throws ReflectiveOperationException {
        // Some runs begin in the last YEARS, some with a few jars, some with nothing.
        if (random.nextInt(8) == 0 && !comeToTheLastYears()) return false;
        boolean good = random.nextInt(8) == 0 || tell(3 + random.nextInt(7));
        while (good && calls.size() < CALLS) good = random.nextInt(12) == 0 ? tell(1 + random.nextInt(4)) : callOne();
        return good;
    }

    private boolean comeToTheLastYears() throws ReflectiveOperationException {
        boolean good = isSame("folk", 0);
        for (int i = 0; i < 16; i++) good = good && isSame("years", 60);
        return good && isSame("years", 30 + random.nextInt(10)) && isSame("folk", random.nextInt(6));
    }

    private boolean callOne() throws ReflectiveOperationException {
        String[] told = CALLS_TOLD[random.nextInt(CALLS_TOLD.length)].split(" ");
        if (told[0].equals("years") && random.nextInt(3) != 0) return true;
        if (told[0].equals("row")) return row();
        int[] args = new int[told.length - 1];
        for (int i = 0; i < args.length; i++) args[i] = argument(told[i + 1]);
        return isSame(told[0], args);
    }

    private int argument(String range) {
        if (range.equals("z")) return random.nextInt();
        int odd = random.nextInt(60);
        int jars = real.count(0);
        if (range.equals("j")) return odd < 2 ? odd * 10 - 1 : random.nextInt(jars + (odd < 12 ? 1 : 0) + (jars == 0 ? 1 : 0));
        int least = Integer.parseInt(range.split("-")[0]);
        int greatest = Integer.parseInt(range.split("-")[1]);
        int[] edges = {least - 1, greatest + 1, least, greatest, Integer.MIN_VALUE, Integer.MAX_VALUE};
        return odd < edges.length ? edges[odd] : least + random.nextInt(greatest - least + 1);
    }

    /** Numbers that often go on as FOOD of some jar or KNOWN do. */
    private boolean row() throws ReflectiveOperationException {
        int many = 1 + random.nextInt(5);
        int jars = real.count(0);
        int jar = jars == 0 ? -1 : random.nextInt(jars);
        boolean ofKnown = jar < 0 || random.nextBoolean();
        for (int i = 0; i < many; i++) {
            int v = ofKnown ? Integer.bitCount(real.knownThen(i)) : real.foodThen(jar, i);
            if (random.nextInt(15) == 0) v = argument("0-99");
            plain.answer(ofKnown ? "knownThen" : "foodThen", ofKnown ? new int[] {i} : new int[] {jar, i});
            if (!isSame("row", v)) return false;
        }
        if (jar >= 0 && !(isSame("whatWas", jar, 0) && isSame("whatWas", jar, 1))) return false;
        return random.nextBoolean() || isSame("judge");
    }

    private boolean tell(int statements) throws ReflectiveOperationException {
        StringBuilder text = new StringBuilder();
        for (int i = 0; i < statements; i++) text.append(statement(i));
        if (random.nextInt(10) == 0) spoil(text);
        for (int i = 0; i < text.length(); i++) if (!isSame("letter", text.charAt(i))) return false;
        return isSame("larder");
    }

    private String statement(int before) {
        int pick = random.nextInt(real.count(0) + before < 4 ? 8 : 24);
        String jar = "" + random.nextInt(Math.max(1, Math.min(9, real.count(0) + random.nextInt(2))));
        if (pick < 7) return "j" + sign(0) + sign(1) + sign(2) + two(random.nextInt(25) == 0 ? 25 : 21) + ";";
        switch (random.nextInt(9)) {
            case 0: case 1: return "m" + jar + sign(2) + ";";
            case 2: case 3: return "x" + jar + ";";
            case 4: case 5: return "f" + two(random.nextInt(4) == 0 ? 22 : 5) + ";";
            case 6: case 7: return "e" + jar + sign(1) + ";";
            default: return "y" + two(random.nextInt(9) == 0 ? 62 : 3) + ";";
        }
    }

    private char sign(int of) {
        return SHARED[of].charAt(random.nextInt(SHARED[of].length()));
    }

    private String two(int below) {
        int v = random.nextInt(below);
        return "" + v / 10 + v % 10;
    }

    private void spoil(StringBuilder text) {
        int place = random.nextInt(text.length());
        String signs = "jmxfey;0679cpbhd \u00ff";
        switch (random.nextInt(4)) {
            case 0: text.setCharAt(place, signs.charAt(random.nextInt(signs.length()))); break;
            case 1: text.deleteCharAt(place); break;
            case 2: text.insert(place, signs.charAt(random.nextInt(signs.length()))); break;
            default: text.setLength(place);
        }
    }

    private boolean isSame(String name, int... args) throws ReflectiveOperationException {
        Class<?>[] types = new Class<?>[args.length];
        Arrays.fill(types, int.class);
        Method method = LarderAges.class.getMethod(name, types);
        Object[] boxed = Arrays.stream(args).boxed().toArray();
        calls.add(name + Arrays.toString(args));
        long got = ((Number) method.invoke(real, boxed)).longValue();
        long due = plain.answer(name, args);
        if (got == due) return true;
        System.out.println(calls.subList(Math.max(0, calls.size() - 40), calls.size()));
        System.out.println(calls.get(calls.size() - 1) + " answered " + got + ", the plain larder " + due + ": " + plain);
        return false;
    }
}
