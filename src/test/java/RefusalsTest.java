import java.util.ArrayList;
import java.util.Arrays;
import java.util.List;

/**
 * Promises 2 to 39: each call with all mixtures of values on either side of its bounds. What is refused answers the
 * number that the call tells first, counts it once, and changes nothing else; what is not refused counts nothing.
 */
public final class RefusalsTest {
    private static final Checks CHECKS = new Checks();
    private static final long LONG_REFUSAL = 4000000000000000000L;

    /**
     * A setup, a call, its refusals in the order of the document; then, for each argument, values that fit and values
     * that do not, with the number behind the sign ":". Where a value only fails in that setup, it stands there alone.
     */
    private static final String[] CALLS = {
        "some letter -4 -6 # 0 255 -1:-4 min:-4 256:-6 max:-6",
        "full letter -4 -6 # 0:-6 255:-6 -1:-4 min:-4 256:-6",
        "some jar -1 -2 # 0 2 -1:-1 3:-1 4:-1 8:-1 9:-1 min:-1 max:-1 # 0 6 -1:-2 7:-2 min:-2 max:-2",
        "full jar -1 -2 # 0 8 -1:-1 9:-1 10:-1 # 0 6 -1:-2 7:-2",
        "new jar -1 -2 # 0:-1 -1:-1 8:-1 # 0 6 7:-2",
        "some moves -1 # 0 2 -1:-1 3:-1 8:-1 min:-1 max:-1 # 0 5 -1:-1 6:-1 min:-1 max:-1",
        "full moves -1 # 0 8 -1:-1 9:-1 # 0 5 -1:-1 6:-1",
        "new moves -1 # 0:-1 # 0 5 6:-1",
        "some shuts -1 # 0 1 2 -1:-1 3:-1 8:-1 min:-1 max:-1",
        "full shuts -1 # 0 8 -1:-1 9:-1",
        "new shuts -1 # 0:-1 8:-1",
        "some eats -1 -4 -6 -3 # 0 2 1:-3 -1:-1 3:-1 8:-1 min:-1 max:-1 # 0 20 -1:-4 21:-6 min:-4 max:-6",
        "full eats -1 -4 -6 -3 # 0 8:-3 9:-1 # 0 20 -1:-4 21:-6",
        "new eats -1 -4 -6 -3 # 0:-1 # 0 20 -1:-4 21:-6",
        "some folk -4 -6 # 0 20 -1:-4 21:-6 min:-4 max:-6",
        "some turn -1 -2 -4 -6 # 0 2 -1:-1 3:-1 8:-1 # 0 5 -1:-2 6:-2 min:-2 max:-2 # 0 9 -1:-4 10:-6 min:-4 max:-6",
        "full turn -1 -2 -4 -6 # 0 8 -1:-1 9:-1 # 0 5 -1:-2 6:-2 # 0 9 -1:-4 10:-6",
        "new turn -1 -2 -4 -6 # 0:-1 # 0 5 6:-2 # 0 9 -1:-4 10:-6",
        "some years -4 -6 # 1 60 0:-4 -1:-4 61:-6 min:-4 max:-6",
        "full years -4 -6 # 1:-6 60:-6 0:-4 -1:-4 61:-6 min:-4 max:-6",
        "some knownThen -4 -6 # 0 60 -1:-4 61:-6 min:-4 max:-6",
        "some foodThen -1 -4 -6 # 0 2 -1:-1 3:-1 8:-1 min:-1 max:-1 # 0 60 -1:-4 61:-6 min:-4 max:-6",
        "full foodThen -1 -4 -6 # 0 8 -1:-1 9:-1 # 0 60 -1:-4 61:-6",
        "new foodThen -1 -4 -6 # 0:-1 # 0 60 -1:-4 61:-6",
        "some hungerThen -4 -6 # 0 60 -1:-4 61:-6 min:-4 max:-6",
        "some first -2 # 0 1 2 3 -1:-2 4:-2 min:-2 max:-2",
        "some lasts -1 # 0 2 -1:-1 3:-1 8:-1 min:-1 max:-1",
        "full lasts -1 # 0 8 -1:-1 9:-1",
        "new lasts -1 # 0:-1",
        "some shutBest -4 -6 -2 # 0 30 -1:-4 31:-6 min:-4 max:-6 # 0 99 -1:-4 100:-6 min:-4 max:-6 # 0 1 -1:-2 2:-2",
        "some move -4 -6 # 0 30 -1:-4 31:-6 min:-4 max:-6",
        "some folkFor -1 -4 -6 # 0 9 -1:-1 10:-1 min:-1 max:-1 # 0 30 -1:-4 31:-6 min:-4 max:-6",
        "some keepers -1 # 0 9 -1:-1 10:-1 min:-1 max:-1",
        "some fullest -2 # 0 1 -1:-2 2:-2 min:-2 max:-2",
        "some age -1 # 0 9 -1:-1 10:-1 min:-1 max:-1",
        "some leak -2 # 0 1 -1:-2 2:-2 min:-2 max:-2",
        "some fill -1 -4 -6 -2 # 0 9 -1:-4 10:-6 # 0 5 -1:-1 6:-1 min:-1 max:-1 # 0 30 -1:-4 31:-6 # 0 1 -1:-2 2:-2",
        "full fill -1 -4 -6 -2 # 0 9 -1:-4 10:-6 min:-4 max:-6 # 0 5 -1:-1 6:-1 # 0 30 31:-6 min:-4 max:-6 # 0 1 2:-2",
        "some two -1 -4 -6 # 0 2 1:-1 -1:-1 3:-1 8:-1 min:-1 max:-1 # 1 -1:-1 3:-1 8:-1 min:-1 max:-1 # 0 30 -1:-4 31:-6 min:-4 max:-6",
        "full two -1 -4 -6 # 0 8:-1 9:-1 # 8 9:-1 # 0 30 -1:-4 31:-6",
        "new two -1 -4 -6 # 0:-1 # 0:-1 1:-1 # 0 30 -1:-4 31:-6",
        "some mice -1 -4 -6 -2 # 0 9 -1:-1 10:-1 # 0 7 -1:-4 8:-6 min:-4 max:-6 # 2 20 1:-4 0:-4 -1:-4 21:-6 min:-4 max:-6 # 0 1 -1:-2 2:-2",
        "some mean -2 # 0 1 -1:-2 2:-2 min:-2 max:-2",
        "some whatWas -1 -2 # 0 2 -1:-1 3:-1 8:-1 min:-1 max:-1 # 0 1 -1:-2 2:-2 min:-2 max:-2",
        "full whatWas -1 -2 # 0 8 -1:-1 9:-1 # 0 1 -1:-2 2:-2",
        "new whatWas -1 -2 # 0:-1 # 0 1 2:-2",
        "some row -4 -6 # 0 99 -1:-4 100:-6 min:-4 max:-6",
        "full row -4 -6 # 0:-6 99:-6 -1:-4 100:-6 min:-4 max:-6",
        "some lots -4 -6 -2 # 1 20 0:-4 -1:-4 21:-6 min:-4 max:-6 # 0 -1 min max # 0 1 -1:-2 2:-2 min:-2 max:-2",
        "some on", "new larder", "new known", "new only", "new fewest", "new dearest", "new feast", "new judge", "new clear",
        "new image", "full known", "full only", "full fewest", "full dearest", "full feast", "full judge", "full clear",
        "full image", "full on",
        // Another what of count is no refusal, though it answers -9.
        "some count # 0 7 8 9 10 11 16 17 -1 -9 min max",
    };

    public static void main(String[] args) {
        tryOne("new", "on", -3);
        countsAll();
        for (String told : CALLS) tryAll(told.replace("min", "" + Integer.MIN_VALUE).replace("max", "" + Integer.MAX_VALUE));
        CHECKS.end();
    }

    /** "how many there were": each one is counted, as often as it comes. */
    private static void countsAll() {
        LarderAges x = new LarderAges();
        String[] refused = {"jar 0 0", "first 4", "on", "folk -1", "folk 21"};
        for (int i = 1; i <= 100; i++) {
            for (String call : refused) Checks.answer(x, call);
        }
        CHECKS.script(x, "count 11 = 100", "count 12 = 100", "count 13 = 100", "count 14 = 100", "count 15 = 0", "count 16 = 100");
    }

    private static void tryAll(String told) {
        String[] shares = told.split(" # ");
        String[] head = shares[0].split(" ");
        List<String> order = Arrays.asList(head).subList(2, head.length);
        mix(head[0], head[1], order, shares, 1, order.size());
    }

    /** Adds each value of the next argument; first is the place in the order of what is refused so far. */
    private static void mix(String setup, String call, List<String> order, String[] shares, int next, int first) {
        if (next == shares.length) {
            tryOne(setup, call, first < order.size() ? Integer.parseInt(order.get(first)) : 0);
            return;
        }
        for (String value : shares[next].split(" ")) {
            String[] parts = value.split(":");
            int place = parts.length == 1 ? order.size() : order.indexOf(parts[1]);
            if (place < 0) throw new IllegalStateException(call + " has no " + value);
            mix(setup, call + " " + parts[0], order, shares, next + 1, Math.min(first, place));
        }
    }

    private static void tryOne(String setup, String call, int refusal) {
        LarderAges x = prepared(setup);
        LarderAges twin = prepared(setup);
        boolean isLong = call.startsWith("mice") || call.startsWith("mean");
        long answer = Checks.answer(x, call);
        String name = setup + ": " + call;
        if (refusal != 0) CHECKS.due(name, answer, isLong ? LONG_REFUSAL - refusal : refusal);
        for (int number = 1; number <= 6; number++) {
            CHECKS.due(name + ", then count(" + (10 + number) + ")", x.count(10 + number), refusal == -number ? 1 : 0);
        }
        if (refusal != 0) CHECKS.same(name, wholeOf(x), wholeOf(twin));
    }

    private static LarderAges prepared(String setup) {
        switch (setup) {
            case "new": return new LarderAges();
            case "some": return some();
            default: return full();
        }
    }

    /** Three jars, of which jar 1 is SHUT, an image of other times, some letters, a ROW that jar 0 goes by. */
    private static LarderAges some() {
        LarderAges x = Checks.larderOf("jj3005;jc3112;jd2520;x1;f04;y02;");
        x.image();
        Checks.tell(x, "f03;y01;e01;");
        Checks.letters(x, "f05;x2;");
        x.row(x.foodThen(0, 0));
        x.row(x.foodThen(0, 1));
        return x;
    }

    /** Nine jars, of which jar 8 is SHUT, the last YEAR, 96 letters, a ROW of 16 numbers. */
    private static LarderAges full() {
        LarderAges x = Checks.larderOf("jj0020;jc1120;jp2220;jb3310;jh4420;jd5520;jj6020;jj7120;jj8220;x8;f00;");
        for (int i = 0; i < 16; i++) x.years(60);
        x.years(39);
        x.image();
        x.turn(1, 0, 9);
        for (int i = 0; i < 32; i++) Checks.letters(x, "x8;");
        for (int i = 0; i < 16; i++) x.row(20);
        return x;
    }

    /** All that an object holds but REFUSALS: asked for until nothing of it is left. */
    private static String wholeOf(LarderAges x) {
        List<String> whole = new ArrayList<>();
        whole.add(Checks.stateOf(x));
        whole.add(x.count(6) + " in the row, letters " + x.count(7));
        if (x.count(0) > 0) whole.add("kinds " + x.whatWas(0, 0) + ", shelves " + x.whatWas(0, 1));
        whole.add("judged " + x.judge());
        whole.add("larder " + x.larder() + ": " + Checks.stateOf(x));
        whole.add("on " + x.on() + ": " + Checks.stateOf(x));
        return String.join(" | ", whole);
    }
}
