/** A larder told in letters: jars on shelves, the customs that they keep, and the years that go by. */
public final class LarderAges {
    private static final int MAX_JARS = 9;
    private static final int KINDS = 6;
    private static final int SHELVES = 6;
    private static final int FLOOR = SHELVES - 1;
    private static final int CUSTOMS = 10;
    private static final int MAX_FIGURE = 9;
    private static final int SHELF_TO_SPOIL = 3;
    private static final int CUSTOM_OF_DRIPPING = 9;
    private static final int MAX_FOOD = 20;
    private static final int MAX_FOLK = 20;
    private static final int FOLK_AT_FIRST = 3;
    private static final int MAX_HUNGER = 9999;
    private static final int MAX_YEAR = 999;
    private static final int MAX_YEARS = 60;
    private static final int MAX_YEARS_TO_CHOOSE = 30;
    private static final int MAX_HUNGER_TO_CHOOSE = 99;
    private static final int FOOD_OF_NEW_JAR = 9;
    private static final int MAX_YEARS_OF_MICE = 7;
    private static final int LEAST_ODDS = 2;
    private static final int GREATEST_ODDS = 20;
    private static final int FOOD_FOR_MICE = 2;
    private static final int JOY_OF_EATING = 2;
    private static final int MAX_CENTURIES = 20;
    private static final int YEARS_OF_LOTS = 10;
    private static final int WITHOUT_SIGN = 0x7fffffff;
    private static final int MAX_LETTERS = 96;
    private static final int MAX_LETTER = 255;
    private static final int MAX_ROW = 16;
    private static final int MAX_ROW_NUMBER = 99;
    // Far above what Euclid's way needs for any two longs.
    private static final int MAX_DIVISIONS = 1000;

    private static final int JAR = 0;
    private static final int CHEESE = 1;
    private static final int POTATOES = 2;
    private static final int BRAWN = 3;
    private static final int HOOK = 4;
    private static final int DRIPPING = 5;
    private static final int NO_KIND = -1;

    private static final int NOBODY = -1;
    private static final int OTHER = -2;
    private static final int STATE = -3;
    private static final int BELOW = -4;
    private static final int ROOM = -6;
    private static final int NONE = -9;
    private static final int REFUSALS = 6;
    private static final long LONG_REFUSAL = 4000000000000000000L;
    private static final int FAULT_OF_LETTERS = -1000;
    private static final int FAULT_OF_SENSE = -2000;

    private final Shelves now = new Shelves();
    private final Shelves imageTaken = new Shelves();
    private boolean hasImage = false;
    // Two larders to try things on, so that no call has to make one.
    private final Shelves thought = new Shelves();
    private final Shelves told = new Shelves();
    private final int[] letters = new int[MAX_LETTERS];
    private int letterCount = 0;
    private final int[] rowNumbers = new int[MAX_ROW];
    private int rowCount = 0;
    private final int[] refusals = new int[REFUSALS + 1];

    public LarderAges() {
    }

    // ---- letters become a larder

    public int letter(int c) {
        if (c < 0) return refuse(BELOW);
        if (c > MAX_LETTER || letterCount >= MAX_LETTERS) return refuse(ROOM);
        letters[letterCount] = c;
        letterCount++;
        return letterCount;
    }

    public int larder() {
        int bad = firstBadPlace();
        int answer = bad == NONE ? tellAll() : FAULT_OF_LETTERS - bad;
        letterCount = 0;
        return answer;
    }

    /** What must stand behind the first letter of a STATEMENT: k a KIND, 0 a digit; empty: there is no such STATEMENT. */
    private static String shapeBehind(int letter) {
        switch (letter) {
            case 'j': return "k0000;";
            case 'x': return "0;";
            case 'm':
            case 'f':
            case 'e':
            case 'y': return "00;";
            default: return "";
        }
    }

    private static boolean fitsShape(int letter, int sign) {
        if (sign == 'k') return kindOf(letter) != NO_KIND;
        if (sign == '0') return letter >= '0' && letter <= '9';
        return letter == sign;
    }

    private static int kindOf(int letter) {
        switch (letter) {
            case 'j': return JAR;
            case 'c': return CHEESE;
            case 'p': return POTATOES;
            case 'b': return BRAWN;
            case 'h': return HOOK;
            case 'd': return DRIPPING;
            default: return NO_KIND;
        }
    }

    /** The place of a FAULT of kind 1, or NONE. */
    private int firstBadPlace() {
        if (letterCount == 0) return 0;
        String shape = "";
        int seen = 0;
        for (int place = 0; place < letterCount; place++) {
            int letter = letterAt(place);
            if (seen < shape.length()) {
                if (!fitsShape(letter, shape.charAt(seen))) return place;
                seen++;
            } else {
                shape = shapeBehind(letter);
                seen = 0;
                if (shape.isEmpty()) return place;
            }
        }
        return seen < shape.length() ? letterCount : NONE;
    }

    /** Letters without a FAULT of kind 1 come on a copy, which is only taken if there is none of kind 2 either. */
    private int tellAll() {
        told.become(now);
        int statements = 0;
        int place = 0;
        for (int i = 0; i < MAX_LETTERS && place < letterCount; i++) {
            if (!tellOne(place)) return FAULT_OF_SENSE - place;
            place += 1 + shapeBehind(letterAt(place)).length();
            statements++;
        }
        now.become(told);
        return statements;
    }

    private int letterAt(int place) {
        return place >= 0 && place < letterCount ? letters[place] : 0;
    }

    private int digitAt(int place) {
        return letterAt(place) - '0';
    }

    private int twoDigitsAt(int place) {
        return 10 * digitAt(place) + digitAt(place + 1);
    }

    /** Whether the STATEMENT that begins at the place is as it must be; then it has come. */
    private boolean tellOne(int place) {
        switch (letterAt(place)) {
            case 'j': return tellJar(place);
            case 'm': return tellMoved(digitAt(place + 1), digitAt(place + 2));
            case 'x': return tellShut(digitAt(place + 1));
            case 'f': return tellFolk(twoDigitsAt(place + 1));
            case 'e': return tellEaten(digitAt(place + 1), digitAt(place + 2));
            case 'y': return tellYears(twoDigitsAt(place + 1));
            default: return false;
        }
    }

    private boolean tellJar(int place) {
        int kind = kindOf(letterAt(place + 1));
        int shelf = digitAt(place + 3);
        int food = twoDigitsAt(place + 4);
        if (kind == NO_KIND || !isShelf(shelf) || food > MAX_FOOD || told.isFull()) return false;
        told.add(kind, digitAt(place + 2), shelf, food);
        return true;
    }

    private boolean tellMoved(int jar, int shelf) {
        if (!told.has(jar) || !isShelf(shelf)) return false;
        told.shelf[jar] = shelf;
        return true;
    }

    private boolean tellShut(int jar) {
        if (!told.has(jar)) return false;
        told.shut[jar] = !told.shut[jar];
        return true;
    }

    private boolean tellFolk(int v) {
        if (v > MAX_FOLK) return false;
        told.folk = v;
        return true;
    }

    private boolean tellEaten(int jar, int v) {
        if (!told.has(jar) || told.shut[jar]) return false;
        told.lessFood(jar, v);
        return true;
    }

    private boolean tellYears(int n) {
        if (n < 1 || n > MAX_YEARS || told.year + n > MAX_YEAR) return false;
        told.pass(n);
        return true;
    }

    // ---- what is and what is done

    public int jar(int jar, int what) {
        if (!now.has(jar)) return refuse(NOBODY);
        switch (what) {
            case 0: return now.kind[jar];
            case 1: return now.figure[jar];
            case 2: return now.shelf[jar];
            case 3: return now.food[jar];
            case 4: return now.shut[jar] ? 1 : 0;
            case 5: return now.spoils(jar);
            case 6: return now.kept(jar);
            default: return refuse(OTHER);
        }
    }

    public int known() {
        return now.knownBits();
    }

    public int moves(int jar, int shelf) {
        if (!now.has(jar) || !isShelf(shelf)) return refuse(NOBODY);
        int was = now.shelf[jar];
        now.shelf[jar] = shelf;
        return was;
    }

    public int shuts(int jar) {
        if (!now.has(jar)) return refuse(NOBODY);
        now.shut[jar] = !now.shut[jar];
        return now.shut[jar] ? 1 : 0;
    }

    public int eats(int jar, int v) {
        if (!now.has(jar)) return refuse(NOBODY);
        if (v < 0) return refuse(BELOW);
        if (v > MAX_FOOD) return refuse(ROOM);
        if (now.shut[jar]) return refuse(STATE);
        now.lessFood(jar, v);
        return now.food[jar];
    }

    public int folk(int v) {
        if (v < 0) return refuse(BELOW);
        if (v > MAX_FOLK) return refuse(ROOM);
        int was = now.folk;
        now.folk = v;
        return was;
    }

    public int turn(int jar, int kind, int figure) {
        if (!now.has(jar)) return refuse(NOBODY);
        if (kind < 0 || kind >= KINDS) return refuse(OTHER);
        if (figure < 0) return refuse(BELOW);
        if (figure > MAX_FIGURE) return refuse(ROOM);
        int was = 10 * now.kind[jar] + now.figure[jar];
        now.kind[jar] = kind;
        now.figure[jar] = figure;
        return was;
    }

    public int years(int n) {
        if (n < 1) return refuse(BELOW);
        if (n > MAX_YEARS || now.year + n > MAX_YEAR) return refuse(ROOM);
        now.pass(n);
        return now.knownCount();
    }

    // ---- years in mind

    public int knownThen(int n) {
        if (n < 0) return refuse(BELOW);
        if (n > MAX_YEARS) return refuse(ROOM);
        thinkAhead(n);
        return thought.knownBits();
    }

    public int foodThen(int jar, int n) {
        if (!now.has(jar)) return refuse(NOBODY);
        if (n < 0) return refuse(BELOW);
        if (n > MAX_YEARS) return refuse(ROOM);
        thinkAhead(n);
        return thought.food[jar];
    }

    public int hungerThen(int n) {
        if (n < 0) return refuse(BELOW);
        if (n > MAX_YEARS) return refuse(ROOM);
        thinkAhead(n);
        return moreHunger();
    }

    public int first(int what) {
        switch (what) {
            case 0: return yearOfForgetting() == NONE ? NONE : leastForgotten();
            case 1: return yearOfForgetting();
            case 2: return yearOfHunger();
            case 3: return yearWithoutFood();
            default: return refuse(OTHER);
        }
    }

    public int lasts(int jar) {
        if (!now.has(jar)) return refuse(NOBODY);
        thought.become(now);
        for (int n = 0; n <= MAX_YEARS; n++) {
            if (thought.food[jar] == 0) return n;
            thought.passYear();
        }
        return NONE;
    }

    private void thinkAhead(int n) {
        thought.become(now);
        thought.pass(n);
    }

    private int moreHunger() {
        return thought.hunger - now.hunger;
    }

    /** Leaves the thought in the year that it answers. */
    private int yearOfForgetting() {
        thought.become(now);
        for (int n = 1; n <= MAX_YEARS; n++) {
            thought.passYear();
            if (forgottenInThought() != 0) return n;
        }
        return NONE;
    }

    private int leastForgotten() {
        int forgotten = forgottenInThought();
        for (int custom = 0; custom < CUSTOMS; custom++) {
            if (hasBit(forgotten, custom)) return custom;
        }
        return NONE;
    }

    private int forgottenInThought() {
        return now.knownBits() & ~thought.knownBits();
    }

    private int yearOfHunger() {
        thought.become(now);
        for (int n = 1; n <= MAX_YEARS; n++) {
            thought.passYear();
            if (moreHunger() > 0) return n;
        }
        return NONE;
    }

    private int yearWithoutFood() {
        thought.become(now);
        for (int n = 0; n <= MAX_YEARS; n++) {
            if (thought.allFood() == 0) return n;
            thought.passYear();
        }
        return NONE;
    }

    // ---- what would be best

    public int shutBest(int n, int most, int what) {
        if (n < 0 || most < 0) return refuse(BELOW);
        if (n > MAX_YEARS_TO_CHOOSE || most > MAX_HUNGER_TO_CHOOSE) return refuse(ROOM);
        if (isNeither(what)) return refuse(OTHER);
        int best = NONE;
        int bestKnown = NONE;
        for (int set = 0; set < 1 << now.jars; set++) {
            thought.become(now);
            thought.shutJust(set);
            thought.pass(n);
            if (moreHunger() <= most && thought.knownCount() > bestKnown) {
                best = set;
                bestKnown = thought.knownCount();
            }
        }
        return what == 0 ? best : bestKnown;
    }

    public int move(int n) {
        if (n < 0) return refuse(BELOW);
        if (n > MAX_YEARS_TO_CHOOSE) return refuse(ROOM);
        thinkAhead(n);
        int bestKnown = thought.knownCount();
        int best = NONE;
        for (int jar = 0; jar < now.jars; jar++) {
            for (int shelf = 0; shelf < SHELVES; shelf++) {
                thought.become(now);
                thought.shelf[jar] = shelf;
                thought.pass(n);
                if (thought.knownCount() > bestKnown) {
                    bestKnown = thought.knownCount();
                    best = 10 * jar + shelf;
                }
            }
        }
        return best;
    }

    public int folkFor(int custom, int n) {
        if (!isCustom(custom)) return refuse(NOBODY);
        if (n < 0) return refuse(BELOW);
        if (n > MAX_YEARS_TO_CHOOSE) return refuse(ROOM);
        for (int v = MAX_FOLK; v >= 0; v--) {
            thought.become(now);
            thought.folk = v;
            thought.pass(n);
            if (hasBit(thought.knownBits(), custom)) return v;
        }
        return NONE;
    }

    public int fill(int figure, int shelf, int n, int what) {
        if (!isShelf(shelf)) return refuse(NOBODY);
        if (figure < 0 || n < 0) return refuse(BELOW);
        if (figure > MAX_FIGURE || n > MAX_YEARS_TO_CHOOSE) return refuse(ROOM);
        if (isNeither(what)) return refuse(OTHER);
        if (now.isFull()) return NONE;
        int best = NONE;
        int bestKnown = NONE;
        for (int kind = 0; kind < KINDS; kind++) {
            thought.become(now);
            thought.add(kind, figure, shelf, FOOD_OF_NEW_JAR);
            thought.pass(n);
            if (thought.knownCount() > bestKnown) {
                best = kind;
                bestKnown = thought.knownCount();
            }
        }
        return what == 0 ? best : bestKnown;
    }

    // ---- which jars keep what

    public int only() {
        int bits = 0;
        for (int jar = 0; jar < now.jars; jar++) {
            if (now.keptAlone(jar) != 0) bits |= 1 << jar;
        }
        return bits;
    }

    public int keepers(int custom) {
        if (!isCustom(custom)) return refuse(NOBODY);
        int bits = 0;
        for (int jar = 0; jar < now.jars; jar++) {
            if (hasBit(now.kept(jar), custom)) bits |= 1 << jar;
        }
        return bits;
    }

    public int fewest() {
        return now.fewestOf(now.jarsWithFood(), 0);
    }

    public int dearest() {
        int best = NONE;
        int bestAlone = NONE;
        for (int jar = 0; jar < now.jars; jar++) {
            int alone = Integer.bitCount(now.keptAlone(jar));
            if (now.food[jar] > 0 && alone > bestAlone) {
                best = jar;
                bestAlone = alone;
            }
        }
        return best;
    }

    public int fullest(int what) {
        if (isNeither(what)) return refuse(OTHER);
        int best = NONE;
        int bestFood = NONE;
        for (int shelf = 0; shelf < SHELVES; shelf++) {
            int food = now.foodOn(shelf);
            if (food > bestFood) {
                best = shelf;
                bestFood = food;
            }
        }
        return what == 0 ? best : bestFood;
    }

    public int age(int custom) {
        if (!isCustom(custom)) return refuse(NOBODY);
        int least = SHELVES;
        for (int jar = 0; jar < now.jars; jar++) {
            if (hasBit(now.kept(jar), custom)) least = Math.min(least, now.shelf[jar]);
        }
        return least < SHELVES ? least : NONE;
    }

    public int leak(int what) {
        if (isNeither(what)) return refuse(OTHER);
        int worst = 0;
        int worstKnown = CUSTOMS + 1;
        for (int shelf = 0; shelf < SHELVES; shelf++) {
            int left = Integer.bitCount(now.keptBy(now.jarsNotOn(shelf)));
            if (left < worstKnown) {
                worst = shelf;
                worstKnown = left;
            }
        }
        return what == 0 ? worst : worstKnown;
    }

    public int feast() {
        int open = now.jarsWithFood() & ~now.shutBits();
        int mustStay = now.fewestOf(open, now.keptBy(now.shutBits()));
        return now.foodIn(open) - Integer.bitCount(mustStay);
    }

    // ---- two aunts

    public int two(int a, int b, int n) {
        if (!now.has(a) || !now.has(b) || a == b) return refuse(NOBODY);
        if (n < 0) return refuse(BELOW);
        if (n > MAX_YEARS_TO_CHOOSE) return refuse(ROOM);
        for (int first = 0; first <= 1; first++) {
            for (int other = 0; other <= 1; other++) {
                if (stays(a, b, n, first, other) && stays(b, a, n, other, first)) return 10 * first + other;
            }
        }
        return NONE;
    }

    /** Whether the aunt of the jar own has no more by doing the other thing alone. */
    private boolean stays(int own, int others, int n, int eating, int otherEating) {
        int has = joyOf(own, others, n, eating, otherEating);
        return has >= joyOf(own, others, n, 1 - eating, otherEating);
    }

    private int joyOf(int own, int others, int n, int eating, int otherEating) {
        boolean hasEaten = eating == 1 && now.food[own] > 0;
        thought.become(now);
        if (eating == 1) thought.food[own] = 0;
        if (otherEating == 1) thought.food[others] = 0;
        thought.pass(n);
        int kept = Integer.bitCount(thought.knownBits() & now.customsByKind(own));
        return hasEaten ? kept + JOY_OF_EATING : kept;
    }

    // ---- fractions

    public long mice(int custom, int n, int t, int part) {
        if (!isCustom(custom)) return refuseLong(NOBODY);
        if (n < 0 || t < LEAST_ODDS) return refuseLong(BELOW);
        if (n > MAX_YEARS_OF_MICE || t > GREATEST_ODDS) return refuseLong(ROOM);
        if (isNeither(part)) return refuseLong(OTHER);
        long likely = 0;
        for (int visits = 0; visits < 1 << n; visits++) {
            thinkOfMice(n, visits);
            if (hasBit(thought.knownBits(), custom)) likely += power(t - 1, n - Integer.bitCount(visits));
        }
        return partOf(likely, power(t, n), part);
    }

    public long mean(int part) {
        if (isNeither(part)) return refuseLong(OTHER);
        return partOf(now.allFood(), Math.max(1, now.jars), part);
    }

    /** Mice come ahead of those of n years whose bits are set. */
    private void thinkOfMice(int n, int visits) {
        thought.become(now);
        for (int i = 0; i < n; i++) {
            if (hasBit(visits, i)) thought.letMiceIn();
            thought.passYear();
        }
    }

    private static long power(int base, int exponent) {
        long result = 1;
        for (int i = 0; i < exponent; i++) result *= base;
        return result;
    }

    private static long partOf(long above, long below, int part) {
        long divisor = greatestDivisor(above, below);
        if (divisor == 0) return 0;
        return part == 0 ? above / divisor : below / divisor;
    }

    private static long greatestDivisor(long above, long below) {
        long greater = above;
        long less = below;
        for (int i = 0; i < MAX_DIVISIONS && less != 0; i++) {
            long rest = greater % less;
            greater = less;
            less = rest;
        }
        return greater;
    }

    // ---- rows

    public int whatWas(int jar, int what) {
        if (!now.has(jar)) return refuse(NOBODY);
        if (isNeither(what)) return refuse(OTHER);
        return what == 0 ? kindsByRow(jar) : shelvesByRow(jar);
    }

    public int row(int v) {
        if (v < 0) return refuse(BELOW);
        if (v > MAX_ROW_NUMBER || rowCount >= MAX_ROW) return refuse(ROOM);
        rowNumbers[rowCount] = v;
        rowCount++;
        return rowCount;
    }

    public int judge() {
        int wrong = NONE;
        thought.become(now);
        for (int i = 0; i < rowCount && wrong == NONE; i++) {
            if (thought.knownCount() != rowNumbers[i]) wrong = i;
            thought.passYear();
        }
        rowCount = 0;
        return wrong;
    }

    public int clear() {
        int had = rowCount;
        rowCount = 0;
        return had;
    }

    private int kindsByRow(int jar) {
        int bits = 0;
        for (int kind = 0; kind < KINDS; kind++) {
            thought.become(now);
            thought.kind[jar] = kind;
            if (goesByRow(jar)) bits |= 1 << kind;
        }
        return bits;
    }

    private int shelvesByRow(int jar) {
        int bits = 0;
        for (int shelf = 0; shelf < SHELVES; shelf++) {
            thought.become(now);
            thought.shelf[jar] = shelf;
            if (goesByRow(jar)) bits |= 1 << shelf;
        }
        return bits;
    }

    /** Whether FOOD of the jar goes in thought from here as the ROW tells. */
    private boolean goesByRow(int jar) {
        for (int i = 0; i < rowCount; i++) {
            if (thought.food[jar] != rowNumbers[i]) return false;
            thought.passYear();
        }
        return true;
    }

    // ---- lots

    public int lots(int n, int z, int what) {
        if (n < 1) return refuse(BELOW);
        if (n > MAX_CENTURIES) return refuse(ROOM);
        if (isNeither(what)) return refuse(OTHER);
        int seed = z;
        int sum = 0;
        for (int century = 0; century < n; century++) {
            seed = drawJars(seed);
            thought.pass(YEARS_OF_LOTS);
            sum += what == 0 ? thought.knownCount() : moreHunger();
        }
        return sum;
    }

    /** Draws SHELF and FOOD of all jars in thought: the seed behind the last DRAW. */
    private int drawJars(int z) {
        int seed = z;
        thought.become(now);
        for (int jar = 0; jar < thought.jars; jar++) {
            seed = nextSeed(seed);
            thought.shelf[jar] = drawn(seed, SHELVES);
            seed = nextSeed(seed);
            thought.food[jar] = drawn(seed, MAX_FOOD + 1);
        }
        return seed;
    }

    private static int nextSeed(int z) {
        return z * 1664525 + 1013904223;
    }

    private static int drawn(int z, int below) {
        return below < 1 ? 0 : (z & WITHOUT_SIGN) / 256 % below;
    }

    // ---- the image and counts

    public int image() {
        imageTaken.become(now);
        hasImage = true;
        return now.year;
    }

    public int on() {
        if (!hasImage) return refuse(STATE);
        now.become(imageTaken);
        return now.year;
    }

    public int count(int what) {
        switch (what) {
            case 0: return now.jars;
            case 1: return now.year;
            case 2: return now.hunger;
            case 3: return now.folk;
            case 4: return now.allFood();
            case 5: return now.shutBits();
            case 6: return rowCount;
            case 7: return letterCount;
            default: return what > 10 && what <= 10 + REFUSALS ? refusals[what - 10] : NONE;
        }
    }

    private int refuse(int number) {
        if (number < 0 && number >= -REFUSALS) refusals[-number]++;
        return number;
    }

    private long refuseLong(int number) {
        return LONG_REFUSAL - refuse(number);
    }

    private static boolean isShelf(int shelf) {
        return shelf >= 0 && shelf < SHELVES;
    }

    private static boolean isCustom(int custom) {
        return custom >= 0 && custom < CUSTOMS;
    }

    private static boolean isNeither(int what) {
        return what != 0 && what != 1;
    }

    private static boolean hasBit(int bits, int place) {
        return (bits >> place & 1) == 1;
    }

    /** All that there is at one time: the jars, FOLK, HUNGER and YEAR. */
    private static final class Shelves {
        final int[] kind = new int[MAX_JARS];
        final int[] figure = new int[MAX_JARS];
        final int[] shelf = new int[MAX_JARS];
        final int[] food = new int[MAX_JARS];
        final boolean[] shut = new boolean[MAX_JARS];
        int jars = 0;
        int folk = FOLK_AT_FIRST;
        int hunger = 0;
        int year = 0;

        Shelves() {
        }

        void become(Shelves other) {
            if (other == null) return;
            for (int i = 0; i < other.jars && i < MAX_JARS; i++) {
                kind[i] = other.kind[i];
                figure[i] = other.figure[i];
                shelf[i] = other.shelf[i];
                food[i] = other.food[i];
                shut[i] = other.shut[i];
            }
            jars = other.jars;
            folk = other.folk;
            hunger = other.hunger;
            year = other.year;
        }

        boolean has(int jar) {
            return jar >= 0 && jar < jars && jar < MAX_JARS;
        }

        boolean isFull() {
            return jars >= MAX_JARS;
        }

        void add(int itsKind, int itsFigure, int itsShelf, int itsFood) {
            if (isFull()) return;
            kind[jars] = itsKind;
            figure[jars] = itsFigure;
            shelf[jars] = itsShelf;
            food[jars] = itsFood;
            shut[jars] = false;
            jars++;
        }

        void lessFood(int jar, int by) {
            if (has(jar)) food[jar] = Math.max(0, food[jar] - by);
        }

        void shutJust(int set) {
            for (int i = 0; i < jars; i++) shut[i] = hasBit(set, i);
        }

        // ---- kinds

        /** By how much FOOD is less in a YEAR. */
        static int spoilsOf(int kind, int shelf) {
            int ofCheese = shelf >= SHELF_TO_SPOIL ? 1 : 0;
            int ofPotatoes = 1;
            switch (kind) {
                case CHEESE: return ofCheese;
                case POTATOES: return ofPotatoes;
                case BRAWN: return ofCheese + 1;
                case HOOK: return shelf == 0 ? ofPotatoes - 1 : ofPotatoes;
                case DRIPPING: return 1;
                default: return 0;
            }
        }

        /** CUSTOMS (bits) that a jar KEEPS as long as it has FOOD. */
        static int customsOf(int kind, int figure, int shelf) {
            int ofJar = 1 << figure;
            int ofBrawn = ofJar | 1 << (figure + 1) % CUSTOMS;
            switch (kind) {
                case BRAWN: return ofBrawn;
                case HOOK: return ofJar | 1 << shelf;
                case DRIPPING: return ofBrawn | 1 << CUSTOM_OF_DRIPPING;
                default: return ofJar;
            }
        }

        int spoils(int jar) {
            return has(jar) ? spoilsOf(kind[jar], shelf[jar]) : 0;
        }

        int customsByKind(int jar) {
            return has(jar) ? customsOf(kind[jar], figure[jar], shelf[jar]) : 0;
        }

        int kept(int jar) {
            return has(jar) && food[jar] > 0 ? customsOf(kind[jar], figure[jar], shelf[jar]) : 0;
        }

        // ---- years

        void pass(int n) {
            for (int i = 0; i < n; i++) passYear();
        }

        void passYear() {
            year++;
            int eaten = Math.min(folk, spoilAll());
            hunger = Math.min(MAX_HUNGER, hunger + folk - eaten);
            for (int from = FLOOR; from >= 0 && eaten > 0; from--) eaten -= eatOn(from, eaten);
        }

        /** All jars SPOIL: FOOD that is left of those that are not SHUT. */
        private int spoilAll() {
            int open = 0;
            for (int i = 0; i < jars; i++) {
                food[i] = Math.max(0, food[i] - spoilsOf(kind[i], shelf[i]));
                if (!shut[i]) open += food[i];
            }
            return open;
        }

        /** At most so much is eaten of the jars on one shelf: how much was. */
        private int eatOn(int from, int most) {
            int left = most;
            for (int i = 0; i < jars && left > 0; i++) {
                if (shelf[i] == from && !shut[i]) {
                    int bite = Math.min(left, food[i]);
                    food[i] -= bite;
                    left -= bite;
                }
            }
            return most - left;
        }

        void letMiceIn() {
            for (int i = 0; i < jars; i++) {
                if (shelf[i] == FLOOR) lessFood(i, FOOD_FOR_MICE);
            }
        }

        // ---- sets of jars and of customs

        int knownBits() {
            return keptBy(~0);
        }

        int knownCount() {
            return Integer.bitCount(knownBits());
        }

        /** CUSTOMS that some jar of a set KEEPS. */
        int keptBy(int set) {
            int bits = 0;
            for (int i = 0; i < jars; i++) {
                if (hasBit(set, i)) bits |= kept(i);
            }
            return bits;
        }

        /** CUSTOMS that the jar KEEPS and no other one does. */
        int keptAlone(int jar) {
            return kept(jar) & ~keptBy(~(1 << jar));
        }

        int shutBits() {
            int bits = 0;
            for (int i = 0; i < jars; i++) {
                if (shut[i]) bits |= 1 << i;
            }
            return bits;
        }

        int jarsWithFood() {
            int bits = 0;
            for (int i = 0; i < jars; i++) {
                if (food[i] > 0) bits |= 1 << i;
            }
            return bits;
        }

        int jarsNotOn(int one) {
            int bits = 0;
            for (int i = 0; i < jars; i++) {
                if (shelf[i] != one) bits |= 1 << i;
            }
            return bits;
        }

        int foodIn(int set) {
            int sum = 0;
            for (int i = 0; i < jars; i++) {
                if (hasBit(set, i)) sum += food[i];
            }
            return sum;
        }

        int foodOn(int one) {
            return foodIn(~jarsNotOn(one));
        }

        int allFood() {
            return foodIn(~0);
        }

        /** The fewest jars of a set (of several the least) that, with the CUSTOMS kept besides, KEEP all that is KNOWN. */
        int fewestOf(int set, int besides) {
            int all = knownBits();
            int best = set;
            for (int some = 0; some < 1 << jars; some++) {
                boolean isFewer = (some & ~set) == 0 && Integer.bitCount(some) < Integer.bitCount(best);
                if (isFewer && (besides | keptBy(some)) == all) best = some;
            }
            return best;
        }
    }
}
