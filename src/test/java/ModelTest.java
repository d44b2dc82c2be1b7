import java.math.BigInteger;
import java.util.ArrayDeque;
import java.util.ArrayList;
import java.util.Arrays;
import java.util.Deque;
import java.util.List;
import java.util.Random;
import java.util.TreeMap;
import java.util.TreeSet;

/**
 * Random runs, and each call by each number at an edge, beside a second, naive
 * writing of the document: sets of nights as lists, snapshots as copies, the
 * text by a regular walk.
 */
public final class ModelTest {
    private static final int RUNS = 2500;
    /** What an object answers behind as many calls is free. */
    private static final int MOST_CALLS = 512;
    private static int wrong;
    private static int calls;

    private static final class Now {
        int night;
        int[] quarters = {}, mate = {}, left = {}, owner = {};
        boolean[] lives = {}, ploughed = {};

        Now copy() {
            Now c = new Now();
            c.night = night;
            c.quarters = quarters.clone();
            c.mate = mate.clone();
            c.left = left.clone();
            c.owner = owner.clone();
            c.lives = lives.clone();
            c.ploughed = ploughed.clone();
            return c;
        }
    }

    private static final class Model {
        StringBuilder text = new StringBuilder();
        List<int[]> farmers = new ArrayList<>(), strips = new ArrayList<>(), cuts = new ArrayList<>();
        TreeSet<Integer> clouds = new TreeSet<>();
        int phase = 0, easter = 30;
        Now now = new Now();
        Deque<Now> past = new ArrayDeque<>();
        Now[] images = new Now[2];
        long trace;

        boolean f(int k) { return k >= 0 && k < farmers.size(); }
        boolean s(int k) { return k >= 0 && k < strips.size(); }
        int moon(int n) {
            int r = (n + phase) % 16;
            return (int) Math.floor((r <= 8 ? r : 16 - r) / 2.0);
        }
        void save() {
            past.addLast(now.copy());
            if (past.size() > 10) past.removeFirst();
        }

        int type(int letter) {
            if (letter < 0 || letter > 255) return -1;
            if (text.length() == 200) return -3;
            text.append((char) letter);
            return text.length();
        }
        int clear() { int n = text.length(); text.setLength(0); return n; }

        int parish() {
            List<String> tokens = new ArrayList<>();
            List<Integer> places = new ArrayList<>();
            String t = text.toString();
            for (int i = 0; i < t.length();) {
                if (t.charAt(i) == ' ') { i++; continue; }
                int j = i + 1;
                if (Character.isDigit(t.charAt(i)) && t.charAt(i) < 128)
                    while (j < t.length() && t.charAt(j) >= '0' && t.charAt(j) <= '9') j++;
                tokens.add(t.substring(i, j));
                places.add(i);
                i = j;
            }
            tokens.add("");
            places.add(t.length());
            List<int[]> fs = new ArrayList<>(), ss = new ArrayList<>();
            TreeSet<Integer> cs = new TreeSet<>();
            Integer ph = null, ea = null;
            int items = 0, i = 0;
            while (!tokens.get(i).isEmpty()) {
                String head = tokens.get(i);
                boolean ok = head.equals("f") && fs.size() < 5 || head.equals("s") && ss.size() < 7
                    || head.equals("c") || head.equals("m") && ph == null || head.equals("e") && ea == null;
                if (!ok) return -10 - places.get(i);
                int[][] bounds = head.equals("f") ? new int[][] {{0, 99}, {1, 4}}
                    : head.equals("s") ? new int[][] {{0, fs.size() - 1}, {1, 60}}
                    : head.equals("c") ? new int[][] {{0, 99}} : head.equals("m") ? new int[][] {{0, 15}} : new int[][] {{1, 60}};
                int[] v = new int[2];
                for (int b = 0; b < bounds.length; b++) {
                    i++;
                    String w = tokens.get(i);
                    if (!w.matches("0|[1-9][0-9]?")) return -10 - places.get(i);
                    v[b] = Integer.parseInt(w);
                    if (v[b] < bounds[b][0] || v[b] > bounds[b][1]) return -10 - places.get(i);
                }
                i++;
                if (!tokens.get(i).equals(";")) return -10 - places.get(i);
                i++;
                items++;
                switch (head) {
                    case "f" -> fs.add(v);
                    case "s" -> ss.add(v);
                    case "c" -> cs.add(v[0]);
                    case "m" -> ph = v[0];
                    default -> ea = v[0];
                }
            }
            farmers = fs;
            strips = ss;
            clouds = cs;
            phase = ph == null ? 0 : ph;
            easter = ea == null ? 30 : ea;
            text.setLength(0);
            cuts.clear();
            images = new Now[2];
            past.clear();
            now = new Now();
            now.quarters = fs.stream().mapToInt(a -> a[0]).toArray();
            now.mate = new int[fs.size()];
            Arrays.fill(now.mate, -9);
            now.lives = new boolean[fs.size()];
            Arrays.fill(now.lives, true);
            now.ploughed = new boolean[fs.size()];
            now.owner = ss.stream().mapToInt(a -> a[0]).toArray();
            now.left = ss.stream().mapToInt(a -> a[1]).toArray();
            return items;
        }

        int farmer(int k, int what) {
            if (!f(k) || what < 0 || what > 4) return -1;
            return new int[] {now.quarters[k], farmers.get(k)[1], now.lives[k] ? 1 : 0, now.mate[k], now.ploughed[k] ? 1 : 0}[what];
        }
        int strip(int k, int what) {
            if (!s(k) || what < 0 || what > 2) return -1;
            return new int[] {now.owner[k], now.left[k], strips.get(k)[1]}[what];
        }
        int night(int n, int what) {
            if (n < 0 || n > 99 || what < 0 || what > 1) return -1;
            return what == 0 ? moon(n) : clouds.contains(n) ? 1 : 0;
        }
        int now(int what) {
            int sum = 0;
            switch (what) {
                case 0: return now.night;
                case 1: for (int i = 0; i < strips.size(); i++) if (now.left[i] == 0) sum += 1 << i; return sum;
                case 2: for (int i = 0; i < farmers.size(); i++) if (now.lives[i]) sum += 1 << i; return sum;
                case 3: return Arrays.stream(now.quarters).sum();
                case 4: for (int n : bright()) if (moon(n) == 4) sum++; return sum;
                case 5: return past.size();
                default: return -1;
            }
        }
        List<Integer> bright() {
            List<Integer> list = new ArrayList<>();
            for (int n = now.night; n < easter; n++) if (!clouds.contains(n)) list.add(n);
            return list;
        }

        int ploughs(int k, int q) {
            if (!f(k) || !s(q)) return -1;
            int m = moon(now.night), o = now.owner[q];
            if (now.left[q] == 0 || !now.lives[k] || now.ploughed[k] || m < 1 || now.quarters[k] < m) return -2;
            if (o != k && now.mate[o] != k) return -2;
            save();
            now.quarters[k] -= m;
            now.ploughed[k] = true;
            if (!clouds.contains(now.night)) now.left[q] = Math.max(0, now.left[q] - m * farmers.get(k)[1]);
            return now.left[q];
        }
        int passes() {
            if (now.night == 99) return -2;
            save();
            Arrays.fill(now.ploughed, false);
            return ++now.night;
        }
        int lends(int a, int b, int n) {
            if (!f(a) || !f(b) || a == b || n < 1 || n > 99) return -1;
            if (!now.lives[a] || !now.lives[b] || now.quarters[a] < n || now.quarters[b] + n > 999) return -2;
            save();
            now.quarters[a] -= n;
            return now.quarters[b] += n;
        }
        int marries(int a, int b) {
            if (!f(a) || !f(b) || a == b) return -1;
            if (!now.lives[a] || !now.lives[b] || now.mate[a] != -9 || now.mate[b] != -9) return -2;
            save();
            now.mate[a] = b;
            now.mate[b] = a;
            return now.quarters[a] + now.quarters[b];
        }
        int dies(int k) {
            if (!f(k)) return -1;
            if (!now.lives[k]) return -2;
            int lowest = -1;
            for (int i = farmers.size() - 1; i >= 0; i--) if (i != k && now.lives[i]) lowest = i;
            if (lowest < 0) return -2;
            save();
            int m = now.mate[k], heir = m == -9 ? lowest : m, q = now.quarters[k];
            now.quarters[k] = 0;
            now.lives[k] = false;
            now.quarters[lowest] += q / 2;
            now.quarters[heir] += q - q / 2;
            for (int i = 0; i < now.owner.length; i++) if (now.owner[i] == k) now.owner[i] = heir;
            if (m != -9) now.mate[m] = -9;
            now.mate[k] = -9;
            return heir;
        }
        int undo() {
            if (past.isEmpty()) return -2;
            now = past.removeLast();
            return past.size();
        }

        /** The best list of each sum, grown night by night; null if the strip can't be done. */
        List<Integer> leastSet(int k, int q) {
            TreeMap<Integer, List<Integer>> best = new TreeMap<>();
            best.put(0, List.of());
            for (int n : bright()) {
                if (moon(n) == 0) continue;
                for (int sum : new ArrayList<>(best.descendingKeySet())) {
                    List<Integer> with = new ArrayList<>(best.get(sum));
                    with.add(n);
                    List<Integer> had = best.get(sum + moon(n));
                    if (had == null || before(with, had)) best.put(sum + moon(n), with);
                }
            }
            for (int sum : best.keySet()) if (sum * farmers.get(k)[1] >= now.left[q]) return best.get(sum);
            return null;
        }
        static boolean before(List<Integer> a, List<Integer> b) {
            if (a.size() != b.size()) return a.size() < b.size();
            for (int i = 0; i < a.size(); i++) if (!a.get(i).equals(b.get(i))) return a.get(i) < b.get(i);
            return false;
        }
        int sum(List<Integer> nights) { return nights.stream().mapToInt(this::moon).sum(); }
        int least(int k, int q, int nth) {
            if (!f(k) || !s(q) || nth < -2) return -1;
            List<Integer> set = leastSet(k, q);
            if (set == null) return -9;
            return nth == -1 ? sum(set) : nth == -2 ? set.size() : nth < set.size() ? set.get(nth) : -5;
        }
        int soonest(int a, int b, int q) {
            if (!f(a) || !s(q) || b < -1 || b >= farmers.size() || a == b) return -1;
            if (now.left[q] == 0) return now.night;
            int[] who = b < 0 ? new int[] {a} : new int[] {a, b};
            int[] quarters = now.quarters.clone();
            int left = now.left[q];
            for (int n = now.night; n < 100; n++)
                for (int k : who)
                    if (moon(n) > 0 && quarters[k] >= moon(n)) {
                        quarters[k] -= moon(n);
                        if (!clouds.contains(n)) left -= moon(n) * farmers.get(k)[1];
                        if (left <= 0) return n;
                    }
            return -9;
        }
        int need(int k) {
            if (!f(k)) return -1;
            int sum = 0;
            for (int i = 0; i < strips.size(); i++)
                if (now.owner[i] == k) {
                    List<Integer> set = leastSet(k, i);
                    if (set == null) return -9;
                    sum += sum(set);
                }
            return sum;
        }
        int lacks(int k) {
            int n = need(k);
            return n < 0 ? n : Math.max(0, n - now.quarters[k]);
        }
        int match(int what) {
            if (what < 0 || what > 1) return -1;
            int best = -9, most = -9;
            for (int a = 0; a < farmers.size(); a++)
                for (int b = 0; b < farmers.size(); b++) {
                    if (a == b || !now.lives[a] || !now.lives[b] || now.mate[a] != -9 || now.mate[b] != -9) continue;
                    int lack = lacks(a), n = need(b);
                    if (lack <= 0 || n < 0 || now.quarters[b] <= n) continue;
                    int covered = Math.min(lack, now.quarters[b] - n);
                    if (covered > most) { most = covered; best = 10 * a + b; }
                }
            return what == 0 ? best : most;
        }
        int cuts(int k, int n, int cut) {
            if (!f(k) || n < 0 || n > 99 || cut < 0 || cut > 16) return -1;
            if (cuts.size() == 6) return -3;
            cuts.add(new int[] {k, n, cut});
            return cuts.size();
        }
        int forget() { int n = cuts.size(); cuts.clear(); return n; }
        int lit() {
            int bits = 0;
            for (int[] c : cuts) {
                int most = clouds.contains(c[1]) ? 0 : moon(c[1]) * farmers.get(c[0])[1];
                if (c[2] > most) bits |= 1 << c[0];
            }
            return bits;
        }
        int mean(int k, int x, int what) {
            if (!f(k) || x < 0 || x > 10 || what < 0 || what > 1) return -1;
            BigInteger up = BigInteger.valueOf((long) sum(bright()) * farmers.get(k)[1] * x), ten = BigInteger.TEN;
            return (what == 0 ? up : ten).divide(up.gcd(ten)).intValue();
        }
        int rate(int kind, int q) {
            if (!s(q) || kind < 0 || kind > 5) return -1000000;
            int left = now.left[q], oxen = farmers.get(now.owner[q])[1], m = moon(now.night);
            trace += new int[] {1, 11, 101, 1011, 10101, 100001}[kind];
            return new int[] {left, left + m, left - oxen, 2 * (left + m), left - oxen + q, left + now.night}[kind];
        }
        int keep(int i) {
            if (i < 0 || i > 1) return -1;
            images[i] = now.copy();
            return now.night;
        }
        int back(int i) {
            if (i < 0 || i > 1) return -1;
            if (images[i] == null) return -2;
            now = images[i].copy();
            past.clear();
            return now.night;
        }
        int count(int what) {
            if (what < 0 || what > 5) return -1;
            return new int[] {farmers.size(), strips.size(), phase, easter, cuts.size(), text.length()}[what];
        }
    }

    private static final class Run {
        final int number;
        final Random random;
        int used;
        final MoonRights x = new MoonRights();
        final Model m = new Model();

        Run(int number) {
            this.number = number;
            random = new Random(number * 7919L + 5);
        }

        void due(String call, long got, long want) {
            if (++used > MOST_CALLS) return;
            calls++;
            if (got != want && wrong++ < 40) {
                System.out.println("run " + number + ": " + call + " answered " + got + ", the model says " + want);
            }
        }

        int upTo(int bound) { return random.nextInt(bound + 1); }
        /** Mostly what there is, now and then just beside it. */
        int near(int size) { return random.nextInt(12) == 0 ? upTo(size + 3) - 2 : upTo(Math.max(0, size - 1)); }
        int k() { return near(m.farmers.size()); }
        int s() { return near(m.strips.size()); }

        String item(int farmers) {
            int odd = random.nextInt(150);
            String gap = random.nextInt(4) == 0 ? " " : "";
            int low = odd == 0 ? -1 : 0, high = odd == 1 ? 1 : 0;
            String[] kinds = {"f", "s", "s", "c", "c", "c", "m", "e"};
            String kind = kinds[random.nextInt(kinds.length)];
            if (odd == 2) return new String[] {";", "q", "f00 1;", "c007;", "f1 1", "s 0", "c100;", "\u00ff", "m1 1;"}[random.nextInt(9)];
            switch (kind) {
                case "f": return gap + "f" + gap + upTo(random.nextBoolean() ? 99 + high : 20) + " " + (1 + upTo(3) + low + high) + gap + ";";
                case "s": return "s" + gap + upTo(Math.max(0, farmers - 1 + high)) + " " + gap + (1 + upTo(random.nextBoolean() ? 59 + high : 15)) + ";" + gap;
                case "c": return "c" + gap + upTo(random.nextBoolean() ? 99 + high : 20) + ";";
                case "m": return random.nextInt(3) == 0 ? "m" + upTo(15 + high) + ";" : "";
                default: return random.nextInt(3) == 0 ? "e" + gap + (1 + upTo(59 + high) + low) + gap + ";" : "";
            }
        }

        void tell() {
            StringBuilder text = new StringBuilder();
            int farmers = upTo(5), items = upTo(14);
            for (int i = 0; i < farmers; i++) text.append("f").append(upTo(random.nextBoolean() ? 99 : 12)).append(' ').append(1 + upTo(3)).append(';');
            boolean m = false, e = false;
            for (int i = 0; i < items; i++) {
                String item = item(farmers);
                if (random.nextInt(10) > 0) {
                    if (item.startsWith("m") && m || item.startsWith("e") && e) continue;
                    if (item.trim().startsWith("f") && farmers >= 5 || item.startsWith("s") && farmers == 0) continue;
                }
                m |= item.startsWith("m");
                e |= item.startsWith("e");
                if (item.trim().startsWith("f")) farmers++;
                text.append(item);
            }
            if (random.nextInt(25) == 0 && text.length() > 0) text.setLength(upTo(text.length()));
            for (int i = 0; i < text.length(); i++) due("type", x.type(text.charAt(i)), this.m.type(text.charAt(i)));
            due("parish() of " + text, x.parish(), this.m.parish());
            if (random.nextInt(8) > 0) due("clear()", x.clear(), this.m.clear());
        }

        void doSomething() {
            int a = k(), b = k(), q = s();
            switch (random.nextInt(12)) {
                case 0, 1, 2, 3 -> due("ploughs", x.ploughs(a, q), m.ploughs(a, q));
                case 4, 5, 6 -> due("passes", x.passes(), m.passes());
                case 7 -> { int n = upTo(random.nextBoolean() ? 10 : 101); due("lends", x.lends(a, b, n), m.lends(a, b, n)); }
                case 8 -> due("marries", x.marries(a, b), m.marries(a, b));
                case 9 -> { if (random.nextInt(3) == 0) due("dies", x.dies(a), m.dies(a)); }
                case 10 -> due("undo", x.undo(), m.undo());
                default -> {
                    int i = near(2);
                    if (random.nextBoolean()) due("keep", x.keep(i), m.keep(i));
                    else due("back", x.back(i), m.back(i));
                }
            }
        }

        void ask() {
            int a = k(), b = random.nextInt(3) == 0 ? -1 : k(), q = s(), w = upTo(7) - 1;
            switch (random.nextInt(15)) {
                case 0 -> due("farmer", x.farmer(a, w), m.farmer(a, w));
                case 1 -> due("strip", x.strip(q, w), m.strip(q, w));
                case 2 -> { int n = near(100); due("night", x.night(n, w), m.night(n, w)); }
                case 3 -> due("now " + w, x.now(w), m.now(w));
                case 4, 5 -> { for (int n = -3; n < 25; n++) due("least " + a + " " + q + " " + n, x.least(a, q, n), m.least(a, q, n)); }
                case 6, 7 -> due("soonest " + a + " " + b + " " + q, x.soonest(a, b, q), m.soonest(a, b, q));
                case 8 -> { due("need", x.need(a), m.need(a)); due("lacks", x.lacks(a), m.lacks(a)); }
                case 9 -> { int n = near(2); due("match " + n, x.match(n), m.match(n)); }
                case 10 -> { int n = near(100), c = near(17); due("cuts", x.cuts(a, n, c), m.cuts(a, n, c)); due("lit", x.lit(), m.lit()); }
                case 11 -> { if (random.nextInt(4) == 0) due("forget", x.forget(), m.forget()); }
                case 12 -> { int p = near(11), n = near(2); due("mean", x.mean(a, p, n), m.mean(a, p, n)); }
                case 13 -> { due("rate", x.rate(w, q), m.rate(w, q)); due("trace", x.trace(), m.trace); }
                default -> due("count " + w, x.count(w), m.count(w));
            }
        }

        void both(Doing doing, int a, int b, int c) {
            due(doing + " " + a + " " + b + " " + c, doing.by(x, a, b, c), doing.by(m, a, b, c));
        }

        /** What is undone, and what the images have. */
        void comparePast() {
            due("trace", x.trace(), m.trace);
            for (int i = 0; i <= 10; i++) {
                due("undo", x.undo(), m.undo());
                for (int w = 0; w < 4; w++) due("now " + w, x.now(w), m.now(w));
            }
            for (int i = 0; i < 2; i++) {
                due("back " + i, x.back(i), m.back(i));
                for (int w = 0; w < 4; w++) due("now " + w, x.now(w), m.now(w));
                for (int k = 0; k < 5; k++) due("farmer " + k, x.farmer(k, 3), m.farmer(k, 3));
            }
        }

        void compareAll() {
            for (int w = 0; w < 6; w++) {
                due("now " + w, x.now(w), m.now(w));
                due("count " + w, x.count(w), m.count(w));
                for (int k = 0; k < 5; k++) due("farmer " + k + " " + w, x.farmer(k, w), m.farmer(k, w));
                for (int s = 0; s < 7; s++) due("strip " + s + " " + w, x.strip(s, w), m.strip(s, w));
            }
        }

        void go() {
            for (int round = 0; round < 3 && used < MOST_CALLS; round++) {
                tell();
                for (int i = 0; i < 40; i++) {
                    if (random.nextBoolean()) doSomething();
                    else ask();
                }
                compareAll();
            }
        }
    }

    private static final int MIN = Integer.MIN_VALUE, MAX = Integer.MAX_VALUE;
    private static final int[] FARMER = {MIN, -9, -2, -1, 0, 1, 2, 3, 4, 5, MAX};
    private static final int[] STRIP = {MIN, -1, 0, 1, 2, 6, 7, MAX};
    private static final int[] NIGHT = {MIN, -1, 0, 1, 98, 99, 100, MAX};
    private static final int[] WHAT = {MIN, -1, 0, 1, 2, 3, 4, 5, 6, MAX};
    private static final int[] LETTER = {MIN, -1, 0, 32, 59, 255, 256, MAX};
    private static final int[] LENT = {MIN, -1, 0, 1, 7, 8, 9, 10, 98, 99, 100, MAX};
    private static final int[] NTH = {MIN, -3, -2, -1, 0, 1, 5, 18, 19, 59, 60, 63, 64, MAX};
    private static final int[] CUT = {MIN, -1, 0, 1, 8, 9, 15, 16, 17, MAX};
    private static final int[] TENTHS = {MIN, -1, 0, 1, 2, 5, 9, 10, 11, MAX};
    private static final int[] IMAGE = {MIN, -1, 0, 1, 2, MAX};
    private static final int[] NOTHING = {0};

    /** A call by its name, which numbers it takes, and both its answers. */
    private enum Doing {
        TYPE(LETTER), CLEAR, PARISH, FARMER_OF(FARMER, WHAT), STRIP_OF(STRIP, WHAT), NIGHT_OF(NIGHT, WHAT), NOW(WHAT),
        PLOUGHS(FARMER, STRIP), PASSES, LENDS(FARMER, FARMER, LENT), MARRIES(FARMER, FARMER), DIES(FARMER), UNDO,
        LEAST(FARMER, STRIP, NTH), SOONEST(FARMER, FARMER, STRIP), NEED(FARMER), LACKS(FARMER), MATCH(WHAT),
        CUTS(FARMER, NIGHT, CUT), FORGET, LIT, MEAN(FARMER, TENTHS, WHAT), RATE(WHAT, STRIP), KEEP(IMAGE), BACK(IMAGE),
        COUNT(WHAT);

        final int[] first, second, third;

        Doing(int[]... numbers) {
            first = numbers.length > 0 ? numbers[0] : NOTHING;
            second = numbers.length > 1 ? numbers[1] : NOTHING;
            third = numbers.length > 2 ? numbers[2] : NOTHING;
        }

        long by(MoonRights x, int a, int b, int c) {
            return switch (this) {
                case TYPE -> x.type(a); case CLEAR -> x.clear(); case PARISH -> x.parish();
                case FARMER_OF -> x.farmer(a, b); case STRIP_OF -> x.strip(a, b); case NIGHT_OF -> x.night(a, b);
                case NOW -> x.now(a); case PLOUGHS -> x.ploughs(a, b); case PASSES -> x.passes();
                case LENDS -> x.lends(a, b, c); case MARRIES -> x.marries(a, b); case DIES -> x.dies(a);
                case UNDO -> x.undo(); case LEAST -> x.least(a, b, c); case SOONEST -> x.soonest(a, b, c);
                case NEED -> x.need(a); case LACKS -> x.lacks(a); case MATCH -> x.match(a);
                case CUTS -> x.cuts(a, b, c); case FORGET -> x.forget(); case LIT -> x.lit();
                case MEAN -> x.mean(a, b, c); case RATE -> x.rate(a, b); case KEEP -> x.keep(a);
                case BACK -> x.back(a); case COUNT -> x.count(a);
            };
        }

        long by(Model m, int a, int b, int c) {
            return switch (this) {
                case TYPE -> m.type(a); case CLEAR -> m.clear(); case PARISH -> m.parish();
                case FARMER_OF -> m.farmer(a, b); case STRIP_OF -> m.strip(a, b); case NIGHT_OF -> m.night(a, b);
                case NOW -> m.now(a); case PLOUGHS -> m.ploughs(a, b); case PASSES -> m.passes();
                case LENDS -> m.lends(a, b, c); case MARRIES -> m.marries(a, b); case DIES -> m.dies(a);
                case UNDO -> m.undo(); case LEAST -> m.least(a, b, c); case SOONEST -> m.soonest(a, b, c);
                case NEED -> m.need(a); case LACKS -> m.lacks(a); case MATCH -> m.match(a);
                case CUTS -> m.cuts(a, b, c); case FORGET -> m.forget(); case LIT -> m.lit();
                case MEAN -> m.mean(a, b, c); case RATE -> m.rate(a, b); case KEEP -> m.keep(a);
                case BACK -> m.back(a); case COUNT -> m.count(a);
            };
        }
    }

    /** A text, and what is done behind it, told by "n" (a night), "p01" (0 ploughs 1) and the like. */
    private static final String[][] STATES = {
        {"", ""},
        {"", "nnk0"},
        {"f9 1;", "c000"},
        {"f9 2;f8 1;s0 9;m8;e1;", "k1p00n"},
        {"f9 1;f8 2;f0 3;f7 1;s0 9;s1 2;s0 20;s2 5;m4;c1;e20;", "p11d3k0m01np00c003"},
        {"f9 4;f8 3;f7 2;f6 1;f5 4;s0 60;s1 60;s2 1;s3 1;s4 9;s4 16;s0 2;m8;e60;c0;c59;c99;",
            "p00p11p22p33p44nnnk0m02m31k1nnnnnnnnp46c409c100c216c000c009c114"},
        {"f99 1;f99 4;s0 1;s1 60;m5;", "l01d0" + "n".repeat(99) + "p11"},
        {"f0 1;f99 2;f9 1;s0 4;s1 60;s2 60;m8;e17;", "m12d2d1u"},
        {"f9 1;s0 9;" + " ".repeat(100), "t"},
    };

    private static Run stateOf(int number) {
        Run run = new Run(number);
        String text = STATES[number][0], doings = STATES[number][1];
        for (int i = 0; i < text.length(); i++) run.both(Doing.TYPE, text.charAt(i), 0, 0);
        run.both(Doing.PARISH, 0, 0, 0);
        for (int i = 0; i < doings.length(); i++) {
            int a = i + 1 < doings.length() ? doings.charAt(i + 1) - '0' : 0, b = i + 2 < doings.length() ? doings.charAt(i + 2) - '0' : 0;
            switch (doings.charAt(i)) {
                case 'n' -> run.both(Doing.PASSES, 0, 0, 0);
                case 'u' -> run.both(Doing.UNDO, 0, 0, 0);
                case 'k' -> run.both(Doing.KEEP, a, 0, 0);
                case 'd' -> run.both(Doing.DIES, a, 0, 0);
                case 'p' -> run.both(Doing.PLOUGHS, a, b, 0);
                case 'm' -> run.both(Doing.MARRIES, a, b, 0);
                case 'l' -> run.both(Doing.LENDS, a, b, 50);
                case 'c' -> run.both(Doing.CUTS, a, b, doings.charAt(i + 3) - '0');
                case 't' -> { for (int n = 0; n < 200; n++) run.both(Doing.TYPE, "c77; ".charAt(n % 5), 0, 0); }
                default -> { }
            }
        }
        return run;
    }

    /** Each call by each of its numbers at an edge, in each state; behind it all is as the model has it. */
    private static void edges() {
        for (int state = 0; state < STATES.length; state++)
            for (Doing doing : Doing.values())
                for (int a : doing.first)
                    for (int b : doing.second)
                        for (int c : doing.third) {
                            Run run = stateOf(state);
                            run.both(doing, a, b, c);
                            run.compareAll();
                            run.comparePast();
                        }
    }

    /** LEAST beside every set of nights, where they are few enough to be tried all. */
    private static void leastBesideAllSets() {
        Random random = new Random(99);
        for (int run = 0; run < 400; run++) {
            int easter = 1 + random.nextInt(11), phase = random.nextInt(16), oxen = 1 + random.nextInt(4);
            int furrows = 1 + random.nextInt(30), cloud = random.nextInt(12);
            String text = "f0 " + oxen + ";s0 " + furrows + ";m" + phase + ";e" + easter + ";c" + cloud + ";";
            MoonRights x = new MoonRights();
            for (int i = 0; i < text.length(); i++) x.type(text.charAt(i));
            x.parish();
            int[] moons = new int[easter];
            for (int n = 0; n < easter; n++) moons[n] = x.night(n, 0);
            int bestQuarters = 999;
            List<Integer> best = null;
            for (int set = 0; set < 1 << easter; set++) {
                if ((set >> cloud & 1) == 1) continue;
                int quarters = 0;
                List<Integer> nights = new ArrayList<>();
                for (int n = 0; n < easter; n++) if ((set >> n & 1) == 1) { quarters += moons[n]; nights.add(n); }
                if (quarters * oxen < furrows) continue;
                if (quarters < bestQuarters || quarters == bestQuarters && Model.before(nights, best)) {
                    bestQuarters = quarters;
                    best = nights;
                }
            }
            int got = x.least(0, 0, -1), want = best == null ? -9 : bestQuarters;
            List<Integer> gotNights = new ArrayList<>();
            for (int k = 0; best != null && k < x.least(0, 0, -2); k++) gotNights.add(x.least(0, 0, k));
            calls++;
            if (got != want || best != null && !best.equals(gotNights)) {
                wrong++;
                System.out.println("least of " + text + " answered " + got + " " + gotNights + ", due is " + want + " " + best);
            }
        }
    }

    public static void main(String[] args) {
        leastBesideAllSets();
        edges();
        for (int run = 0; run < RUNS; run++) {
            new Run(run).go();
        }
        System.out.println(calls + " answers beside the model, " + wrong + " of them not as due");
        System.exit(wrong == 0 ? 0 : 1);
    }
}
