import java.math.BigInteger;
import java.util.ArrayList;
import java.util.Arrays;
import java.util.List;
import java.util.Set;
import java.util.TreeSet;
import java.util.function.Consumer;
import java.util.function.ToIntFunction;
import java.util.regex.Matcher;
import java.util.regex.Pattern;

/** The document once more, in the slowest and plainest way: what LarderAges should answer. */
final class PlainLarder {
    private static final String KINDS = "jcpbhd";
    private static final long LONG_REFUSAL = 4000000000000000000L;

    private record Jar(int kind, int figure, int shelf, int food, boolean shut) {
        Jar withKind(int k) { return new Jar(k, figure, shelf, food, shut); }
        Jar withFigure(int f) { return new Jar(kind, f, shelf, food, shut); }
        Jar withShelf(int s) { return new Jar(kind, figure, s, food, shut); }
        Jar withFood(int f) { return new Jar(kind, figure, shelf, Math.max(0, f), shut); }
        Jar withShut(boolean s) { return new Jar(kind, figure, shelf, food, s); }

        int spoils() {
            if (kind == 1) return shelf > 2 ? 1 : 0;
            if (kind == 3) return withKind(1).spoils() + 1;
            if (kind == 4) return withKind(2).spoils() - (shelf == 0 ? 1 : 0);
            return kind == 0 ? 0 : 1;
        }

        Set<Integer> ofKind() {
            Set<Integer> customs = new TreeSet<>(List.of(figure));
            if (kind == 3 || kind == 5) customs.add(figure == 9 ? 0 : figure + 1);
            if (kind == 4) customs.add(shelf);
            if (kind == 5) customs.add(9);
            return customs;
        }

        Set<Integer> keeps() { return food > 0 ? ofKind() : new TreeSet<>(); }
    }

    private static final class World {
        List<Jar> jars = new ArrayList<>();
        int folk = 3, hunger = 0, year = 0;

        World copy() {
            World w = new World();
            w.jars = new ArrayList<>(jars);
            w.folk = folk;
            w.hunger = hunger;
            w.year = year;
            return w;
        }

        World with(Consumer<World> change) {
            World w = copy();
            change.accept(w);
            return w;
        }

        World after(int n) { return with(w -> { for (int i = 0; i < n; i++) w.aYear(); }); }

        void aYear() {
            year++;
            jars.replaceAll(j -> j.withFood(j.food - j.spoils()));
            for (int mouth = 0; mouth < folk; mouth++) {
                int from = -1;
                for (int i = 0; i < jars.size(); i++) {
                    Jar j = jars.get(i);
                    if (!j.shut && j.food > 0 && (from < 0 || j.shelf > jars.get(from).shelf)) from = i;
                }
                if (from >= 0) set(from, jars.get(from).withFood(jars.get(from).food - 1));
                else if (hunger < 9999) hunger++;
            }
        }

        void mice() { jars.replaceAll(j -> j.shelf == 5 ? j.withFood(j.food - 2) : j); }

        void set(int i, Jar j) { jars.set(i, j); }

        Set<Integer> known() {
            Set<Integer> all = new TreeSet<>();
            for (Jar j : jars) all.addAll(j.keeps());
            return all;
        }

        int food() { return jars.stream().mapToInt(Jar::food).sum(); }
    }

    private World now = new World();
    private World image = null;
    private final StringBuilder letters = new StringBuilder();
    private final List<Integer> rows = new ArrayList<>();
    private final int[] refusals = new int[7];

    private static int bits(Set<Integer> set) {
        int b = 0;
        for (int i : set) b += 1 << i;
        return b;
    }

    private int refuse(int number) {
        refusals[-number]++;
        return number;
    }

    private boolean no(int jar) { return jar < 0 || jar >= now.jars.size(); }

    /** The first of pairs (refused, number) that fits, or 0. */
    private int refusal(Object... told) {
        for (int i = 0; i < told.length; i += 2) if ((Boolean) told[i]) return refuse((Integer) told[i + 1]);
        return 0;
    }

    private static boolean notOneOf(int what, int below) { return what < 0 || what >= below; }

    /** What the call answers, by its name and arguments. */
    long answer(String name, int... a) {
        switch (name) {
            case "letter": return letter(a[0]);
            case "larder": return larder();
            case "jar": return jar(a[0], a[1]);
            case "known": return bits(now.known());
            case "moves": return moves(a[0], a[1]);
            case "shuts": return shuts(a[0]);
            case "eats": return eats(a[0], a[1]);
            case "folk": return folk(a[0]);
            case "turn": return turn(a[0], a[1], a[2]);
            case "years": return years(a[0]);
            case "knownThen": case "hungerThen": return then(name, a[0]);
            case "foodThen": return foodThen(a[0], a[1]);
            case "first": return first(a[0]);
            case "lasts": return lasts(a[0]);
            case "shutBest": return shutBest(a[0], a[1], a[2]);
            case "move": return move(a[0]);
            case "folkFor": return folkFor(a[0], a[1]);
            case "only": return only();
            case "keepers": return keepers(a[0]);
            case "fewest": return fewest();
            case "dearest": return dearest();
            case "fullest": return fullest(a[0]);
            case "age": return age(a[0]);
            case "leak": return leak(a[0]);
            case "fill": return fill(a[0], a[1], a[2], a[3]);
            case "feast": return feast();
            case "two": return two(a[0], a[1], a[2]);
            case "mice": return mice(a[0], a[1], a[2], a[3]);
            case "mean": return mean(a[0]);
            case "whatWas": return whatWas(a[0], a[1]);
            case "row": return row(a[0]);
            case "judge": return judge();
            case "clear": { int had = rows.size(); rows.clear(); return had; }
            case "lots": return lots(a[0], a[1], a[2]);
            case "image": image = now.copy(); return now.year;
            case "on": return on();
            case "count": return count(a[0]);
            default: throw new IllegalArgumentException(name);
        }
    }

    private int letter(int c) {
        int r = refusal(c < 0, -4, c > 255 || letters.length() == 96, -6);
        if (r != 0) return r;
        letters.append((char) c);
        return letters.length();
    }

    private static final String[] FORMS = {"j[jcpbhd]\\d\\d\\d\\d;", "m\\d\\d;", "x\\d;", "f\\d\\d;", "e\\d\\d;", "y\\d\\d;"};
    private static final Pattern LARDER = Pattern.compile("(?:" + String.join("|", FORMS) + ")+");

    private int larder() {
        String text = letters.toString();
        letters.setLength(0);
        Matcher whole = LARDER.matcher(text);
        if (!whole.matches()) {
            for (int end = 1; end <= text.length(); end++) {
                Matcher m = LARDER.matcher(text.substring(0, end));
                if (!m.matches() && !m.hitEnd()) return -1000 - (end - 1);
            }
            return -1000 - text.length();
        }
        World w = now.copy();
        int place = 0;
        String[] statements = text.split(";");
        for (String s : statements) {
            if (!comes(w, s)) return -2000 - place;
            place += s.length() + 1;
        }
        now = w;
        return statements.length;
    }

    private static boolean comes(World w, String s) {
        int[] d = s.chars().map(c -> c - '0').toArray();
        int two = s.length() == 3 ? 10 * d[1] + d[2] : 0;
        int size = w.jars.size();
        switch (s.charAt(0)) {
            case 'j': {
                int food = 10 * d[4] + d[5];
                if (d[3] > 5 || food > 20 || size == 9) return false;
                w.jars.add(new Jar(KINDS.indexOf(s.charAt(1)), d[2], d[3], food, false));
                return true;
            }
            case 'm':
                if (d[1] >= size || d[2] > 5) return false;
                w.set(d[1], w.jars.get(d[1]).withShelf(d[2]));
                return true;
            case 'x':
                if (d[1] >= size) return false;
                w.set(d[1], w.jars.get(d[1]).withShut(!w.jars.get(d[1]).shut));
                return true;
            case 'f':
                if (two > 20) return false;
                w.folk = two;
                return true;
            case 'e':
                if (d[1] >= size || w.jars.get(d[1]).shut) return false;
                w.set(d[1], w.jars.get(d[1]).withFood(w.jars.get(d[1]).food - d[2]));
                return true;
            default:
                if (two < 1 || two > 60 || w.year + two > 999) return false;
                for (int i = 0; i < two; i++) w.aYear();
                return true;
        }
    }

    private int jar(int jar, int what) {
        int r = refusal(no(jar), -1, notOneOf(what, 7), -2);
        if (r != 0) return r;
        Jar j = now.jars.get(jar);
        return new int[] {j.kind, j.figure, j.shelf, j.food, j.shut ? 1 : 0, j.spoils(), bits(j.keeps())}[what];
    }

    private int moves(int jar, int shelf) {
        int r = refusal(no(jar) || notOneOf(shelf, 6), -1);
        if (r != 0) return r;
        Jar j = now.jars.get(jar);
        now.set(jar, j.withShelf(shelf));
        return j.shelf;
    }

    private int shuts(int jar) {
        int r = refusal(no(jar), -1);
        if (r != 0) return r;
        Jar j = now.jars.get(jar);
        now.set(jar, j.withShut(!j.shut));
        return j.shut ? 0 : 1;
    }

    private int eats(int jar, int v) {
        int r = refusal(no(jar), -1, v < 0, -4, v > 20, -6, !no(jar) && now.jars.get(jar).shut, -3);
        if (r != 0) return r;
        now.set(jar, now.jars.get(jar).withFood(now.jars.get(jar).food - v));
        return now.jars.get(jar).food;
    }

    private int folk(int v) {
        int r = refusal(v < 0, -4, v > 20, -6);
        if (r != 0) return r;
        int was = now.folk;
        now.folk = v;
        return was;
    }

    private int turn(int jar, int kind, int figure) {
        int r = refusal(no(jar), -1, notOneOf(kind, 6), -2, figure < 0, -4, figure > 9, -6);
        if (r != 0) return r;
        Jar j = now.jars.get(jar);
        now.set(jar, j.withKind(kind).withFigure(figure));
        return 10 * j.kind + j.figure;
    }

    private int years(int n) {
        int r = refusal(n < 1, -4, n > 60 || now.year + n > 999, -6);
        if (r != 0) return r;
        now = now.after(n);
        return now.known().size();
    }

    private int then(String name, int n) {
        int r = refusal(n < 0, -4, n > 60, -6);
        if (r != 0) return r;
        World w = now.after(n);
        return name.equals("knownThen") ? bits(w.known()) : w.hunger - now.hunger;
    }

    private int foodThen(int jar, int n) {
        int r = refusal(no(jar), -1, n < 0, -4, n > 60, -6);
        return r != 0 ? r : now.after(n).jars.get(jar).food;
    }

    private int first(int what) {
        int r = refusal(notOneOf(what, 4), -2);
        if (r != 0) return r;
        for (int n = what == 3 ? 0 : 1; n <= 60; n++) {
            World w = now.after(n);
            Set<Integer> lost = now.known();
            lost.removeAll(w.known());
            if (what < 2 && !lost.isEmpty()) return what == 0 ? lost.iterator().next() : n;
            if (what == 2 && w.hunger > now.hunger) return n;
            if (what == 3 && w.food() == 0) return n;
        }
        return -9;
    }

    private int lasts(int jar) {
        int r = refusal(no(jar), -1);
        if (r != 0) return r;
        for (int n = 0; n <= 60; n++) if (now.after(n).jars.get(jar).food == 0) return n;
        return -9;
    }

    /** The first of choices that has most, if any has more than a number: {choice, how many}, or -9 both. */
    private static int[] most(int choices, int above, ToIntFunction<Integer> value) {
        int[] best = {-9, -9};
        int most = above;
        for (int c = 0; c < choices; c++) {
            int v = value.applyAsInt(c);
            if (v > most) {
                most = v;
                best = new int[] {c, v};
            }
        }
        return best;
    }

    private int shutBest(int n, int most, int what) {
        int r = refusal(n < 0 || most < 0, -4, n > 30 || most > 99, -6, notOneOf(what, 2), -2);
        if (r != 0) return r;
        return most(1 << now.jars.size(), -1, set -> {
            World w = now.with(x -> {
                for (int i = 0; i < x.jars.size(); i++) x.set(i, x.jars.get(i).withShut((set >> i) % 2 == 1));
            }).after(n);
            return w.hunger - now.hunger <= most ? w.known().size() : -1;
        })[what];
    }

    private int move(int n) {
        int r = refusal(n < 0, -4, n > 30, -6);
        if (r != 0) return r;
        int best = most(6 * now.jars.size(), now.after(n).known().size(), c ->
            now.with(w -> w.set(c / 6, w.jars.get(c / 6).withShelf(c % 6))).after(n).known().size())[0];
        return best == -9 ? -9 : best / 6 * 10 + best % 6;
    }

    private int folkFor(int custom, int n) {
        int r = refusal(notOneOf(custom, 10), -1, n < 0, -4, n > 30, -6);
        if (r != 0) return r;
        int best = -9;
        for (int v = 0; v <= 20; v++) {
            int folk = v;
            if (now.with(w -> w.folk = folk).after(n).known().contains(custom)) best = v;
        }
        return best;
    }

    private Set<Integer> alone(int jar) {
        Set<Integer> alone = now.jars.get(jar).keeps();
        for (int i = 0; i < now.jars.size(); i++) if (i != jar) alone.removeAll(now.jars.get(i).keeps());
        return alone;
    }

    private int only() {
        int b = 0;
        for (int i = 0; i < now.jars.size(); i++) if (!alone(i).isEmpty()) b += 1 << i;
        return b;
    }

    private int keepers(int custom) {
        int r = refusal(notOneOf(custom, 10), -1);
        if (r != 0) return r;
        int b = 0;
        for (int i = 0; i < now.jars.size(); i++) if (now.jars.get(i).keeps().contains(custom)) b += 1 << i;
        return b;
    }

    /** All but the jars of a set are bare. */
    private World just(int set) {
        return now.with(w -> {
            for (int i = 0; i < w.jars.size(); i++) if ((set >> i) % 2 == 0) w.set(i, w.jars.get(i).withFood(0));
        });
    }

    private int fewest() {
        for (int many = 0; many <= 9; many++) {
            for (int set = 0; set < 1 << now.jars.size(); set++) {
                if (Integer.bitCount(set) == many && just(set).known().equals(now.known())) return set;
            }
        }
        throw new IllegalStateException();
    }

    private int dearest() {
        return most(now.jars.size(), -1, i -> now.jars.get(i).food > 0 ? alone(i).size() : -1)[0];
    }

    private int fullest(int what) {
        int r = refusal(notOneOf(what, 2), -2);
        if (r != 0) return r;
        return most(6, -1, s -> now.jars.stream().filter(j -> j.shelf == s).mapToInt(Jar::food).sum())[what];
    }

    private int age(int custom) {
        int r = refusal(notOneOf(custom, 10), -1);
        if (r != 0) return r;
        return now.jars.stream().filter(j -> j.keeps().contains(custom)).mapToInt(Jar::shelf).min().orElse(-9);
    }

    private int leak(int what) {
        int r = refusal(notOneOf(what, 2), -2);
        if (r != 0) return r;
        int[] best = most(6, -100, s -> -now.with(w -> w.jars.replaceAll(j -> j.shelf == s ? j.withFood(0) : j)).known().size());
        return what == 0 ? best[0] : -best[1];
    }

    private int fill(int figure, int shelf, int n, int what) {
        int r = refusal(notOneOf(shelf, 6), -1, figure < 0 || n < 0, -4, figure > 9 || n > 30, -6, notOneOf(what, 2), -2);
        if (r != 0) return r;
        if (now.jars.size() == 9) return -9;
        return most(6, -1, k -> now.with(w -> w.jars.add(new Jar(k, figure, shelf, 9, false))).after(n).known().size())[what];
    }

    /** Tries for each open jar all, all but 1 and nothing of its FOOD. */
    private int feast() { return feast(0, now.copy(), 0); }

    private int feast(int jar, World w, int eaten) {
        if (jar == w.jars.size()) return w.known().equals(now.known()) ? eaten : 0;
        Jar j = w.jars.get(jar);
        int best = feast(jar + 1, w, eaten);
        if (j.shut || j.food == 0) return best;
        for (int stays = 0; stays <= 1; stays++) {
            int left = stays;
            best = Math.max(best, feast(jar + 1, w.with(x -> x.set(jar, j.withFood(left))), eaten + j.food - left));
        }
        return best;
    }

    private int two(int a, int b, int n) {
        int r = refusal(no(a) || no(b) || a == b, -1, n < 0, -4, n > 30, -6);
        if (r != 0) return r;
        int[][] ofA = new int[2][2];
        int[][] ofB = new int[2][2];
        for (int p = 0; p < 2; p++) {
            for (int q = 0; q < 2; q++) {
                World w = now.copy();
                if (p == 1) w.set(a, w.jars.get(a).withFood(0));
                if (q == 1) w.set(b, w.jars.get(b).withFood(0));
                w = w.after(n);
                ofA[p][q] = joy(w, a, p);
                ofB[p][q] = joy(w, b, q);
            }
        }
        for (int p = 0; p < 2; p++) {
            for (int q = 0; q < 2; q++) {
                if (ofA[1 - p][q] <= ofA[p][q] && ofB[p][1 - q] <= ofB[p][q]) return 10 * p + q;
            }
        }
        return -9;
    }

    private int joy(World w, int jar, int eating) {
        Set<Integer> own = now.jars.get(jar).ofKind();
        own.retainAll(w.known());
        return own.size() + (eating == 1 && now.jars.get(jar).food > 0 ? 2 : 0);
    }

    private long mice(int custom, int n, int t, int part) {
        int r = refusal(notOneOf(custom, 10), -1, n < 0 || t < 2, -4, n > 7 || t > 20, -6, notOneOf(part, 2), -2);
        if (r != 0) return LONG_REFUSAL - r;
        return inLeastTerms(ways(now.copy(), custom, n, BigInteger.valueOf(t)), BigInteger.valueOf(t).pow(n), part);
    }

    private static BigInteger ways(World w, int custom, int n, BigInteger t) {
        if (n == 0) return w.known().contains(custom) ? BigInteger.ONE : BigInteger.ZERO;
        BigInteger without = ways(w.after(1), custom, n - 1, t).multiply(t.subtract(BigInteger.ONE));
        return without.add(ways(w.with(World::mice).after(1), custom, n - 1, t));
    }

    private static long inLeastTerms(BigInteger above, BigInteger below, int part) {
        BigInteger by = above.gcd(below);
        return (part == 0 ? above : below).divide(by).longValueExact();
    }

    private long mean(int part) {
        int r = refusal(notOneOf(part, 2), -2);
        if (r != 0) return LONG_REFUSAL - r;
        if (now.jars.isEmpty()) return part;
        return inLeastTerms(BigInteger.valueOf(now.food()), BigInteger.valueOf(now.jars.size()), part);
    }

    private int whatWas(int jar, int what) {
        int r = refusal(no(jar), -1, notOneOf(what, 2), -2);
        if (r != 0) return r;
        int b = 0;
        for (int c = 0; c < 6; c++) {
            Jar j = now.jars.get(jar);
            Jar other = what == 0 ? j.withKind(c) : j.withShelf(c);
            boolean all = true;
            for (int i = 0; i < rows.size(); i++) {
                all &= now.with(w -> w.set(jar, other)).after(i).jars.get(jar).food == rows.get(i);
            }
            if (all) b += 1 << c;
        }
        return b;
    }

    private int row(int v) {
        int r = refusal(v < 0, -4, v > 99 || rows.size() == 16, -6);
        if (r != 0) return r;
        rows.add(v);
        return rows.size();
    }

    private int judge() {
        int wrong = -9;
        for (int i = rows.size() - 1; i >= 0; i--) if (now.after(i).known().size() != rows.get(i)) wrong = i;
        rows.clear();
        return wrong;
    }

    private int lots(int n, int z, int what) {
        int r = refusal(n < 1, -4, n > 20, -6, notOneOf(what, 2), -2);
        if (r != 0) return r;
        BigInteger seed = BigInteger.valueOf(z);
        int known = 0;
        int hunger = 0;
        for (int century = 0; century < n; century++) {
            World w = now.copy();
            for (int i = 0; i < w.jars.size(); i++) {
                seed = next(seed);
                w.set(i, w.jars.get(i).withShelf(draw(seed, 6)));
                seed = next(seed);
                w.set(i, w.jars.get(i).withFood(draw(seed, 21)));
            }
            w = w.after(10);
            known += w.known().size();
            hunger += w.hunger - now.hunger;
        }
        return what == 0 ? known : hunger;
    }

    /** Without the bits that an int does not hold; its sign's bit does not matter to a DRAW or the next one. */
    private static BigInteger next(BigInteger z) {
        return z.multiply(BigInteger.valueOf(1664525)).add(BigInteger.valueOf(1013904223)).mod(BigInteger.ONE.shiftLeft(32));
    }

    private static int draw(BigInteger z, int below) {
        return z.mod(BigInteger.ONE.shiftLeft(31)).divide(BigInteger.valueOf(256)).mod(BigInteger.valueOf(below)).intValueExact();
    }

    private int on() {
        if (image == null) return refuse(-3);
        now = image.copy();
        return now.year;
    }

    private int count(int what) {
        int shut = 0;
        for (int i = 0; i < now.jars.size(); i++) if (now.jars.get(i).shut) shut += 1 << i;
        int[] counts = {now.jars.size(), now.year, now.hunger, now.folk, now.food(), shut, rows.size(), letters.length()};
        if (what >= 0 && what < counts.length) return counts[what];
        return what >= 11 && what <= 16 ? refusals[what - 10] : -9;
    }

    @Override
    public String toString() {
        return now.jars + " folk " + now.folk + " hunger " + now.hunger + " year " + now.year + " row " + Arrays.toString(rows.toArray());
    }
}
