import java.lang.reflect.Field;
import java.nio.file.Files;
import java.nio.file.Path;
import java.util.ArrayList;
import java.util.Arrays;
import java.util.List;
import java.util.Set;
import java.util.TreeSet;
import java.util.function.Supplier;

/**
 * Each sentence of the document that names a boundary has its own test here,
 * under the sentence's own words: what lies just within, and just beyond.
 * No object is used for more than 512 calls, as later answers are free.
 */
public final class BoundariesTest {
    private static final int BAD = MoonRights.BAD, STATE = MoonRights.STATE, FULL = MoonRights.FULL;
    private static final int NONE = MoonRights.NONE, NO = MoonRights.NO;
    private static final int LEAST = Integer.MIN_VALUE, MOST = Integer.MAX_VALUE;
    /** What the moon is by r, as the document's two rows of cut halves come to. */
    private static final int[] MOON_BY_R = {0, 0, 1, 1, 2, 2, 3, 3, 4, 3, 3, 2, 2, 1, 1, 0};

    private static String document = "";
    private static final Set<Integer> PROMISED = new TreeSet<>();
    private static String sentence;
    private static int sentences;
    private static int wrong;

    private interface Call {
        long on(MoonRights x);
    }

    private interface Test {
        void run() throws Exception;
    }

    // ---- how a sentence is tested

    private static String squeezed(String text) {
        return text.replaceAll("\\s+", " ");
    }

    private static void readDocument() throws Exception {
        Path place = Path.of("../shared/DOC.md");
        if (Files.isReadable(place)) {
            document = squeezed(Files.readString(place));
        } else {
            System.out.println("the document is not there: the sentences are not looked up in it");
        }
    }

    private static void wrong(String what) {
        wrong++;
        System.out.println("\"" + sentence + "\": " + what);
    }

    private static void due(String call, long got, long want) {
        if (got != want) {
            wrong(call + " answered " + got + ", due is " + want);
        }
    }

    private static void says(String words, Test test) throws Exception {
        says(words, document, test);
    }

    private static void promise(int number, String words, Test test) throws Exception {
        PROMISED.add(number);
        int from = document.indexOf("## Promise " + number + ":");
        int to = document.indexOf("## ", from + 3);
        says(words, from < 0 ? "" : document.substring(from, to < 0 ? document.length() : to), test);
    }

    private static void says(String words, String where, Test test) throws Exception {
        sentence = words;
        sentences++;
        if (!document.isEmpty() && !where.contains(squeezed(words))) {
            wrong("the document does not say so there");
        }
        test.run();
    }

    private static void type(MoonRights x, String text) {
        for (int i = 0; i < text.length(); i++) {
            x.type(text.charAt(i));
        }
    }

    private static MoonRights told(String text) {
        MoonRights x = new MoonRights();
        type(x, text);
        long items = x.parish();
        if (items < 0) {
            wrong("parish() of " + text + " answered " + items);
        }
        return x;
    }

    private static long read(String text) {
        MoonRights x = new MoonRights();
        type(x, text);
        return x.parish();
    }

    private static void items(String text, int items) {
        due("parish() of " + text, read(text), items);
    }

    private static void fault(String text, int place) {
        due("parish() of " + text, read(text), -10 - place);
    }

    private static MoonRights pass(MoonRights x, int nights) {
        for (int i = 0; i < nights; i++) {
            x.passes();
        }
        return x;
    }

    private static MoonRights toldAt(String text, int night) {
        return pass(told(text), night);
    }

    private static void row(String name, Call[] calls, MoonRights x, long... want) {
        for (int i = 0; i < want.length; i++) {
            due(name + " " + i, calls[i].on(x), want[i]);
        }
    }

    /** LEAST whole: quarters, how many nights, each of them, and none behind them. */
    private static void leastIs(MoonRights x, int k, int s, int quarters, int... nights) {
        String name = "least(" + k + ", " + s + ", ";
        due(name + "-1)", x.least(k, s, -1), quarters);
        due(name + "-2)", x.least(k, s, -2), nights.length);
        for (int i = 0; i < nights.length; i++) {
            due(name + i + ")", x.least(k, s, i), nights[i]);
        }
        due(name + nights.length + ")", x.least(k, s, nights.length), -5);
    }

    private static void leastIsNone(MoonRights x, int k, int s) {
        for (int n = -2; n < 2; n++) {
            due("least(" + k + ", " + s + ", " + n + ")", x.least(k, s, n), NONE);
        }
    }

    private static void matchIs(String text, int pair, int covered) {
        MoonRights x = told(text);
        due("match(0) of " + text, x.match(0), pair);
        due("match(1) of " + text, x.match(1), covered);
    }

    private static void meanIs(MoonRights x, int k, int tenths, int upper, int lower) {
        due("mean(" + k + ", " + tenths + ", 0)", x.mean(k, tenths, 0), upper);
        due("mean(" + k + ", " + tenths + ", 1)", x.mean(k, tenths, 1), lower);
    }

    // ---- refusals: nothing changes

    private static void seeDoings(MoonRights x, List<Long> seen) {
        for (int what = 0; what < 4; what++) {
            seen.add((long) x.now(what));
        }
        for (int k = 0; k < x.count(0); k++) {
            for (int what = 0; what < 5; what++) {
                seen.add((long) x.farmer(k, what));
            }
        }
        for (int s = 0; s < x.count(1); s++) {
            seen.add((long) x.strip(s, 0));
            seen.add((long) x.strip(s, 1));
        }
    }

    /** Uses the object up: what can be seen, then undone, then brought back, then read of its text. */
    private static List<Long> everything(MoonRights x) {
        List<Long> seen = new ArrayList<>();
        for (int what = 0; what < 6; what++) {
            seen.add((long) x.count(what));
        }
        for (int n = 0; n < 10; n++) {
            seen.add((long) x.night(n, 0) * 2 + x.night(n, 1));
        }
        seen.add(x.trace());
        seen.add((long) x.lit());
        seen.add((long) x.now(4));
        seen.add((long) x.now(5));
        seeDoings(x, seen);
        for (int i = 0; i < 10 && x.now(5) > 0; i++) {
            seen.add((long) x.undo());
            seeDoings(x, seen);
        }
        for (int image = 0; image < 2; image++) {
            seen.add((long) x.back(image));
            seeDoings(x, seen);
        }
        seen.add((long) x.forget());
        seen.add((long) x.parish());
        seen.add((long) x.night(77, 1));
        return seen;
    }

    /** The same object twice, one of them refuses the call: no later answer of theirs is unlike. */
    private static void refused(String name, Supplier<MoonRights> make, Call call, long answer) {
        MoonRights with = make.get();
        MoonRights without = make.get();
        due(name, call.on(with), answer);
        if (!everything(with).equals(everything(without))) {
            wrong(name + " was refused, but something changed");
        }
    }

    private static void bad(String name, Call call) {
        refused(name, BoundariesTest::busy, call, BAD);
    }

    private static void state(String name, Call call) {
        refused(name, BoundariesTest::busy, call, STATE);
    }

    /**
     * Four farmers in night 1: 0 and 1 are married, 3 is dead, 2 has no quarters;
     * 0 has ploughed; strip 1 is done; strip 3 is that of 2; image 0 is kept; the
     * text has a cloud to tell.
     */
    private static MoonRights busy() {
        MoonRights x = told("f9 1;f8 2;f0 3;f7 1;s0 9;s1 2;s0 20;s2 5;m4;");
        x.ploughs(1, 1);
        x.dies(3);
        x.keep(0);
        x.marries(0, 1);
        x.passes();
        x.ploughs(0, 0);
        x.cuts(0, 0, 3);
        x.rate(1, 0);
        type(x, "c77;");
        return x;
    }

    private static MoonRights fullText() {
        MoonRights x = told("f9 1;s0 9;");
        type(x, "c77;" + " ".repeat(196));
        return x;
    }

    private static MoonRights fullCuts() {
        MoonRights x = told("f9 1;s0 9;");
        for (int i = 0; i < 6; i++) {
            x.cuts(0, i, 0);
        }
        return x;
    }

    // ---- 1: the text

    private static void fiveFarmers() {
        String five = "f1 1;f2 1;f3 1;f4 1;f5 1;";
        MoonRights x = told(five);
        due("count(0)", x.count(0), 5);
        due("farmer(4, 0)", x.farmer(4, 0), 5);
        due("farmer(5, 0)", x.farmer(5, 0), BAD);
        fault(five + "f6 1;", 25);
        items("", 0);
        due("nobody", told("").farmer(0, 0), BAD);
    }

    private static void quartersTold() {
        MoonRights x = told("f0 1;f99 1;");
        due("the fewest", x.farmer(0, 0), 0);
        due("the most", x.farmer(1, 0), 99);
        fault("f100 1;", 1);
    }

    private static void oxenTold() {
        MoonRights x = told("f9 1;f9 4;");
        due("the fewest", x.farmer(0, 1), 1);
        due("the most", x.farmer(1, 1), 4);
        fault("f9 0;", 3);
        fault("f9 5;", 3);
        fault("f9 99;", 3);
    }

    private static void sevenStrips() {
        String seven = "f1 1;s0 1;s0 2;s0 3;s0 4;s0 5;s0 6;s0 7;";
        MoonRights x = told(seven);
        due("count(1)", x.count(1), 7);
        due("strip(6, 2)", x.strip(6, 2), 7);
        due("strip(7, 2)", x.strip(7, 2), BAD);
        fault(seven + "s0 8;", 40);
        due("no strips", told("f1 1;").strip(0, 2), BAD);
    }

    private static void ownersTold() {
        MoonRights x = told("f1 1;f1 1;f1 1;f1 1;f1 1;s0 1;s4 1;");
        due("the lowest", x.strip(0, 0), 0);
        due("the highest", x.strip(1, 0), 4);
        fault("f1 1;f1 1;f1 1;f1 1;f1 1;s5 1;", 26);
    }

    private static void furrowsTold() {
        MoonRights x = told("f1 1;s0 1;s0 60;");
        due("the fewest", x.strip(0, 2), 1);
        due("the most", x.strip(1, 2), 60);
        fault("f1 1;s0 0;", 8);
        fault("f1 1;s0 61;", 8);
    }

    private static void phaseTold() {
        due("at first", new MoonRights().count(2), 0);
        due("not told", told("f1 1;").count(2), 0);
        due("the lowest", told("m0;").count(2), 0);
        due("the highest", told("m15;").count(2), 15);
        fault("m16;", 1);
    }

    private static void cloudsTold() {
        MoonRights x = told("c0;c99;");
        for (int n = 0; n < 100; n++) {
            due("night(" + n + ", 1)", x.night(n, 1), n == 0 || n == 99 ? 1 : 0);
        }
        fault("c100;", 1);
        due("none at first", new MoonRights().night(0, 1), 0);
    }

    private static void easterTold() {
        due("at first", new MoonRights().count(3), 30);
        due("not told", told("f1 1;").count(3), 30);
        due("the first", told("e1;").count(3), 1);
        due("the last", told("e60;").count(3), 60);
        fault("e0;", 1);
        fault("e61;", 1);
    }

    private static void easterIsNoNight() {
        // Night 8 is full.
        due("it is Easter", told("m0;e8;").now(4), 0);
        due("it is ahead of Easter", told("m0;e9;").now(4), 1);
        meanIs(told("f1 1;m8;e1;"), 0, 10, 4, 1);
        meanIs(toldAt("f1 1;m8;e1;", 1), 0, 10, 0, 1);
        due("the strip's first night is Easter", toldAt("f1 1;s0 1;m8;e1;", 1).least(0, 0, -1), NONE);
        due("one ploughs at Easter all the same", toldAt("f9 1;s0 4;m8;e1;", 1).ploughs(0, 0), 1);
    }

    private static void twoHundredLetters() {
        MoonRights x = new MoonRights();
        type(x, "c1;" + " ".repeat(193));
        due("letter 197", x.type('c'), 197);
        due("letter 198", x.type('9'), 198);
        due("letter 199", x.type('9'), 199);
        due("letter 200", x.type(';'), 200);
        due("letter 201", x.type('x'), FULL);
        due("all 200 are read", x.parish(), 2);
        due("the last item", x.night(99, 1), 1);
        due("there is room again", x.type(' '), 1);
    }

    private static void blanksOnly() {
        items("", 0);
        items(" ", 0);
        items("   f   1   1   ;   ", 1);
        items("f1 1;s0 1;c1;m1;e1;", 5);
        items("f1    1;c1;     ", 2);
        fault("f 1\t1;", 3);
        fault("c1;\n", 3);
        fault("\rc1;", 0);
        fault("c1\0;", 2);
        fault("c\u00a01;", 1);
        fault("f11;", 3);
    }

    private static void itemsEnded() {
        items("c1;", 1);
        items("c1;c1;", 2);
        fault("c1", 2);
        fault("c1c1;", 2);
        fault("f1 1s0 1;", 4);
        fault(";", 0);
        fault("c1;;", 3);
        fault("c;", 1);
        fault("m;", 1);
        fault("e;", 1);
    }

    private static void farmerItems() {
        items("f1 1;", 1);
        fault("f;", 1);
        fault("f1;", 2);
        fault("f1 1 1;", 5);
        fault("f1 f;", 3);
    }

    private static void toldAhead() {
        items("f1 1;s0 1;", 2);
        items("f1 1;s0 1;f1 1;s1 1;", 4);
        fault("s0 1;f1 1;", 1);
        fault("f1 1;s1 1;f1 1;", 6);
        fault("f1 1;s;", 6);
        fault("f1 1;s0;", 7);
        fault("f1 1;s0 1 1;", 10);
    }

    private static void cloudsAgain() {
        MoonRights x = new MoonRights();
        type(x, "c3;c3;c3;c4;");
        due("each is an item", x.parish(), 4);
        due("a cloud", x.night(3, 1), 1);
        due("the next", x.night(4, 1), 1);
        due("none", x.night(5, 1), 0);
        fault("c3 4;", 3);
    }

    private static void onceEach() {
        items("m1;e1;", 2);
        items("e1;m1;", 2);
        fault("m1;m1;", 3);
        fault("m0;c1; m0;", 7);
        fault("e1;e1;", 3);
        fault("e30;m1;e30;", 7);
        MoonRights x = told("m1;e1;");
        type(x, "m2;e2;");
        due("another text tells them anew", x.parish(), 2);
        due("phase", x.count(2), 2);
        due("Easter", x.count(3), 2);
    }

    private static void everyLetter() {
        for (int letter = 0; letter < 256; letter++) {
            MoonRights x = new MoonRights();
            type(x, "c1;");
            x.type(letter);
            boolean begins = "fscme".indexOf(letter) >= 0;
            due("parish() of c1; and " + letter, x.parish(), letter == 32 ? 1 : begins ? -14 : -13);
        }
    }

    private static void everyLetterWithin() {
        for (int letter = 0; letter < 256; letter++) {
            MoonRights x = new MoonRights();
            type(x, "c1");
            x.type(letter);
            boolean digit = letter >= '0' && letter <= '9';
            due("parish() of c1 and " + letter, x.parish(), letter == ';' ? 1 : letter == 32 || digit ? -13 : -12);
        }
    }

    private static void firstFault() {
        fault("c1;x;f0 0;", 3);
        fault("f0 0;x", 3);
        fault("f100 0 x", 1);
        fault("   s1 1;", 4);
        fault("c   1   c", 8);
        fault("f1 1; f 1  77;", 11);
        fault("e1;m16", 4);
    }

    private static void tooManyOrAgain() {
        fault("f1 1;f1 1;f1 1;f1 1;f1 1;f", 25);
        fault("f1 1;s0 1;s0 1;s0 1;s0 1;s0 1;s0 1;s0 1;s", 40);
        fault("m1;m", 3);
        fault("e1;e", 3);
        fault("f1 1;s1", 6);
        fault("s0", 1);
        fault("f1 9", 3);
        fault("f1 1;s0 99", 8);
        fault("m99", 1);
        fault("e99", 1);
    }

    private static void wrongNumbers() {
        items("c99;", 1);
        fault("c100;", 1);
        fault("c 100;", 2);
        fault("c999;", 1);
        // By 32 and by 64 bits these wrap around to 1.
        fault("c4294967297;", 1);
        fault("c18446744073709551617;", 1);
        fault("c" + "9".repeat(199), 1);
        items("c0;", 1);
        fault("c00;", 1);
        fault("c01;", 1);
        fault("c  010;", 3);
        fault("f0 01;", 3);
        items("c10;", 1);
        fault("x", 0);
        fault("c1;F1 1;", 3);
        fault("c-1;", 1);
        fault("c1.5;", 2);
        fault("\u00ff", 0);
    }

    private static void endsTooEarly() {
        String text = "f1 2;s0 3; c 45 ;m6;e7;";
        int items = 0;
        for (int n = 0; n <= text.length(); n++) {
            String head = text.substring(0, n);
            if (head.endsWith(";")) {
                items++;
            }
            boolean whole = head.isBlank() || head.trim().endsWith(";");
            due("parish() of " + head, read(head), whole ? items : -10 - n);
        }
        fault("f1 1   ", 7);
        fault("c" + " ".repeat(199), 200);
        fault("f", 1);
    }

    // ---- 2: what is done

    private static void nightsAtMost() {
        MoonRights x = told("f1 1;");
        due("at first", x.now(0), 0);
        for (int n = 1; n < 100; n++) {
            due("passes()", x.passes(), n);
        }
        due("passes() in 99", x.passes(), STATE);
        due("now(0)", x.now(0), 99);
        due("it can be undone still", x.undo(), 9);
        due("now(0)", x.now(0), 98);
        due("and goes by again", x.passes(), 99);
    }

    private static void moonWraps() {
        for (int phase = 0; phase < 16; phase++) {
            MoonRights x = told("m" + phase + ";");
            for (int n = 0; n < 100; n++) {
                due("night(" + n + ", 0) by phase " + phase, x.night(n, 0), MOON_BY_R[(n + phase) % 16]);
            }
        }
        due("the last night of all", told("m15;").night(99, 0), 1);
    }

    private static void moonCut() {
        MoonRights x = new MoonRights();
        int[] nights = {0, 1, 2, 7, 8, 9, 10, 14, 15, 16, 17, 18};
        int[] moons = {0, 0, 1, 3, 4, 3, 3, 1, 0, 0, 0, 1};
        for (int i = 0; i < nights.length; i++) {
            due("night(" + nights[i] + ", 0)", x.night(nights[i], 0), moons[i]);
        }
    }

    private static void atFirst() {
        MoonRights x = told("f1 1;f2 1;f3 1;f4 1;f5 1;s0 1;s4 60;");
        due("all live", x.now(2), 31);
        for (int k = 0; k < 5; k++) {
            due("lives", x.farmer(k, 2), 1);
            due("is married to nobody", x.farmer(k, 3), NONE);
            due("has not ploughed", x.farmer(k, 4), 0);
        }
        due("nothing is done", x.now(1), 0);
        due("all furrows of 0", x.strip(0, 1), 1);
        due("all furrows of 1", x.strip(1, 1), 60);
    }

    private static void doneStripsAreNotPloughed() {
        MoonRights x = told("f99 1;s0 5;s0 4;m8;");
        due("one is left", x.ploughs(0, 0), 1);
        x.passes();
        due("one furrow is not done", x.ploughs(0, 0), 0);
        x.passes();
        due("done", x.ploughs(0, 0), STATE);
        due("another strip is not", x.ploughs(0, 1), 1);
    }

    private static void theDeadDoNotPlough() {
        MoonRights x = told("f9 1;f9 1;s0 9;m8;");
        x.dies(0);
        due("the dead", x.ploughs(0, 0), STATE);
        due("his heir", x.ploughs(1, 0), 5);
    }

    private static void ownersAndMates() {
        MoonRights x = told("f9 1;f9 1;f9 1;s0 9;s1 9;m8;");
        due("neither owner nor mate", x.ploughs(1, 0), STATE);
        x.marries(0, 1);
        due("the owner's mate", x.ploughs(1, 0), 5);
        due("the other way round", x.ploughs(0, 1), 5);
        due("another one", x.ploughs(2, 0), STATE);
        x.passes();
        x.dies(0);
        due("a widow owns it", x.ploughs(1, 0), 2);
    }

    private static void onceInANight() {
        MoonRights x = told("f9 1;s0 9;s0 9;m8;c1;");
        due("the first time", x.ploughs(0, 0), 5);
        due("again", x.ploughs(0, 0), STATE);
        due("another strip", x.ploughs(0, 1), STATE);
        x.passes();
        due("in the next night, by a cloud", x.ploughs(0, 0), 5);
        due("a cloud's ploughing counts", x.ploughs(0, 1), STATE);
        x.undo();
        due("undone: he may", x.ploughs(0, 1), 9);
        MoonRights two = told("f9 1;f9 1;s0 9;s1 9;m8;");
        due("one of two", two.ploughs(0, 0), 5);
        due("the other one has not", two.farmer(1, 4), 0);
        due("the other one", two.ploughs(1, 1), 5);
        due("the first one has still", two.farmer(0, 4), 1);
        due("the first one again", two.ploughs(0, 0), STATE);
    }

    private static void someMoon() {
        for (int n = 0; n < 16; n++) {
            int moon = MOON_BY_R[n];
            due("in night " + n, toldAt("f9 1;s0 9;", n).ploughs(0, 0), moon == 0 ? STATE : 9 - moon);
        }
    }

    private static void asManyQuarters() {
        due("just as many", told("f4 1;s0 9;m8;").ploughs(0, 0), 5);
        due("one too few", told("f3 1;s0 9;m8;").ploughs(0, 0), STATE);
        due("none", told("f0 1;s0 9;m8;").ploughs(0, 0), STATE);
        due("no quarters by no moon", told("f0 1;s0 9;").ploughs(0, 0), STATE);
    }

    private static void usedUp() {
        MoonRights x = told("f4 4;f9 1;s0 60;s1 1;m8;");
        x.ploughs(0, 0);
        due("all of them", x.farmer(0, 0), 0);
        x.ploughs(1, 1);
        due("more than the strip takes", x.farmer(1, 0), 5);
    }

    private static void cloudsCutNothing() {
        MoonRights x = told("f9 4;s0 9;m8;c0;c99;");
        due("by a cloud", x.ploughs(0, 0), 9);
        due("it uses the moon up", x.farmer(0, 0), 5);
        due("he ploughed", x.farmer(0, 4), 1);
        due("it can be undone", x.undo(), 0);
        due("quarters again", x.farmer(0, 0), 9);
        // Night 99 by phase 8: r is 11.
        MoonRights last = toldAt("f9 4;s0 9;m8;c99;", 99);
        due("in the last night", last.ploughs(0, 0), 9);
        due("two quarters", last.farmer(0, 0), 7);
    }

    private static void furrowsAtLeastNone() {
        due("15 of 16", told("f9 4;s0 15;m8;").ploughs(0, 0), 0);
        due("16 of 16", told("f9 4;s0 16;m8;").ploughs(0, 0), 0);
        due("17 of 16", told("f9 4;s0 17;m8;").ploughs(0, 0), 1);
        due("1 of 16", told("f9 4;s0 1;m8;").ploughs(0, 0), 0);
        due("by one ox and one quarter", toldAt("f9 1;s0 60;", 2).ploughs(0, 0), 59);
    }

    private static void lentBounds() {
        MoonRights x = told("f99 1;f5 1;f0 1;");
        due("none", x.lends(0, 1, 0), BAD);
        due("100", x.lends(0, 1, 100), BAD);
        due("one", x.lends(0, 1, 1), 6);
        due("one more than he has", x.lends(0, 1, 99), STATE);
        due("all that he has", x.lends(0, 1, 98), 104);
        due("he has none", x.farmer(0, 0), 0);
        due("more than 99, in one time", x.lends(1, 2, 100), BAD);
        due("99 of 104", x.lends(1, 2, 99), 99);
        x.dies(1);
        due("to the dead", x.lends(2, 1, 1), STATE);
        due("of the dead", x.lends(1, 2, 1), STATE);
    }

    /** No text tells more than 495 quarters, so the bound is set up behind the program's back. */
    private static void setQuarters(MoonRights x, int k, int quarters) throws Exception {
        Field standing = MoonRights.class.getDeclaredField("standing");
        standing.setAccessible(true);
        Field row = standing.get(x).getClass().getDeclaredField("quarters");
        row.setAccessible(true);
        ((int[]) row.get(standing.get(x)))[k] = quarters;
    }

    private static void lentUpToTheMost() throws Exception {
        MoonRights x = told("f99 1;f99 1;f99 1;f99 1;f99 1;");
        for (int k = 1; k < 5; k++) {
            due("lends(" + k + ", 0, 99)", x.lends(k, 0, 99), 99 * (k + 1));
        }
        MoonRights rich = told("f99 1;f99 1;");
        setQuarters(rich, 0, 950);
        due("up to 999", rich.lends(1, 0, 49), 999);
        due("above 999", rich.lends(1, 0, 1), STATE);
        due("refused", rich.farmer(1, 0), 50);
        due("back to the other one", rich.lends(0, 1, 99), 149);
    }

    private static void marriedBounds() {
        MoonRights x = told("f1 1;f2 1;f3 1;f4 1;");
        x.dies(3);
        due("the second one is dead", x.marries(0, 3), STATE);
        due("the first one is dead", x.marries(3, 0), STATE);
        due("two who live", x.marries(0, 1), 7);
        due("they are married", x.marries(0, 1), STATE);
        due("the other way round", x.marries(1, 0), STATE);
        due("the first one is married", x.marries(0, 2), STATE);
        due("the second one is", x.marries(2, 1), STATE);
        x.undo();
        due("not any more", x.marries(2, 1), 5);
    }

    private static void anotherOneLives() {
        due("nobody else", told("f1 1;").dies(0), STATE);
        MoonRights x = told("f1 1;f2 1;f3 1;");
        due("the first", x.dies(2), 0);
        due("the dead", x.dies(2), STATE);
        due("the second", x.dies(0), 1);
        due("the last", x.dies(1), STATE);
        due("he lives", x.now(2), 2);
    }

    private static void heirs() {
        MoonRights x = told("f1 1;f2 1;f3 1;f4 1;f5 1;");
        x.marries(1, 4);
        due("his mate, the highest", x.dies(1), 4);
        due("the widower's heir is the lowest", x.dies(4), 0);
        due("the lowest's heir is the next one who lives", x.dies(0), 2);
        due("the last but one", x.dies(3), 2);
        MoonRights y = told("f1 1;f2 1;f3 1;");
        y.marries(2, 0);
        due("his mate, the lowest", y.dies(2), 0);
    }

    private static void halves() {
        for (int quarters = 0; quarters < 4; quarters++) {
            MoonRights x = told("f10 1;f20 1;f" + quarters + " 1;");
            x.marries(1, 2);
            x.dies(2);
            due("the lowest by " + quarters, x.farmer(0, 0), 10 + quarters / 2);
            due("the heir by " + quarters, x.farmer(1, 0), 20 + quarters - quarters / 2);
        }
        MoonRights one = told("f7 1;f10 1;f9 1;");
        one.dies(0);
        due("the lowest is heir too", one.farmer(1, 0), 17);
        due("nobody else has any of it", one.farmer(2, 0), 9);
    }

    private static void nothingLostBelowTheMost() throws Exception {
        MoonRights x = told("f99 1;f99 1;f99 1;f99 1;f99 1;");
        for (int k = 1; k < 5; k++) {
            x.dies(k);
        }
        due("the most that a text tells", x.farmer(0, 0), 495);
        bequest(950, 949, 999, 999);
        bequest(951, 949, 999, 999);
        bequest(950, 950, 999, 999);
        bequest(999, 999, 999, 999);
        bequest(949, 948, 998, 998);
        MoonRights alone = told("f99 1;f99 1;");
        setQuarters(alone, 0, 901);
        alone.dies(1);
        due("both halves to one", alone.farmer(0, 0), 999);
    }

    /** 99 quarters: 49 to the lowest, 50 to the heir. */
    private static void bequest(int lowest, int heir, int lowestThen, int heirThen) throws Exception {
        MoonRights x = told("f9 1;f9 1;f99 1;");
        x.marries(1, 2);
        setQuarters(x, 0, lowest);
        setQuarters(x, 1, heir);
        due("dies(2)", x.dies(2), 1);
        due("49 to " + lowest, x.farmer(0, 0), lowestThen);
        due("50 to " + heir, x.farmer(1, 0), heirThen);
        due("the dead has none", x.farmer(2, 0), 0);
    }

    private static void inherited() {
        MoonRights x = told("f1 1;f1 1;f1 1;s0 1;s2 2;s1 3;s2 4;s2 5;s2 6;s2 7;");
        x.marries(1, 2);
        x.dies(2);
        int[] owners = {0, 1, 1, 1, 1, 1, 1};
        for (int s = 0; s < 7; s++) {
            due("strip(" + s + ", 0)", x.strip(s, 0), owners[s]);
            due("strip(" + s + ", 1)", x.strip(s, 1), s + 1);
        }
    }

    private static void widowed() {
        MoonRights x = told("f1 1;f1 1;f1 1;f1 1;");
        x.marries(0, 1);
        x.marries(2, 3);
        x.dies(1);
        due("the widower", x.farmer(0, 3), NONE);
        due("the dead", x.farmer(1, 3), NONE);
        due("others stay married", x.farmer(2, 3), 3);
        due("and so", x.farmer(3, 3), 2);
        x.dies(0);
        due("the dead", x.farmer(0, 3), NONE);
        due("the widower's heir stays married", x.farmer(2, 3), 3);
        due("undone", x.undo(), 3);
        due("undone", x.undo(), 2);
        due("married again", x.farmer(0, 3), 1);
        due("married again", x.farmer(1, 3), 0);
    }

    private static void theDeadHaveNothing() {
        MoonRights x = told("f9 1;f99 1;");
        x.dies(1);
        due("quarters", x.farmer(1, 0), 0);
        due("oxen as told", x.farmer(1, 1), 1);
        due("he lives no more", x.farmer(1, 2), 0);
        due("the other one does", x.farmer(0, 2), 1);
        due("quarters of all", x.now(3), 108);
        due("he counts", x.count(0), 2);
    }

    private static void undoneEach() {
        MoonRights x = told("f9 1;f9 1;s0 9;m8;");
        long[] fresh = seenDoings(x);
        Call[] doings = {y -> y.ploughs(0, 0), y -> y.passes(), y -> y.lends(0, 1, 1), y -> y.marries(1, 0), y -> y.dies(0)};
        for (int i = 0; i < doings.length; i++) {
            if (doings[i].on(x) < 0) {
                wrong("doing " + i + " was refused");
            }
            due("known", x.now(5), 1);
            due("undo()", x.undo(), 0);
            due("as ahead of it", Arrays.equals(seenDoings(x), fresh) ? 1 : 0, 1);
            due("none any more", x.undo(), STATE);
        }
    }

    private static long[] seenDoings(MoonRights x) {
        List<Long> seen = new ArrayList<>();
        seeDoings(x, seen);
        return seen.stream().mapToLong(Long::longValue).toArray();
    }

    private static void tenKnown() {
        MoonRights x = told("f9 1;");
        for (int n = 1; n <= 13; n++) {
            x.passes();
            due("known behind " + n, x.now(5), Math.min(10, n));
        }
        for (int known = 9; known >= 0; known--) {
            due("undo()", x.undo(), known);
            due("now(0)", x.now(0), 3 + known);
        }
        due("older ones are lost", x.undo(), STATE);
        due("now(0)", x.now(0), 3);
        pass(x, 4);
        due("new ones are known", x.now(5), 4);
        due("undo()", x.undo(), 3);
    }

    private static void refusedOnesAreNotUndone() {
        MoonRights x = told("f9 1;f9 1;s0 9;");
        x.passes();
        x.ploughs(0, 0);
        x.lends(0, 0, 1);
        x.marries(0, 0);
        x.dies(2);
        x.ploughs(5, 0);
        due("known", x.now(5), 1);
        due("undo()", x.undo(), 0);
        due("now(0)", x.now(0), 0);
        MoonRights last = pass(toldAt("f9 1;", 99), 3);
        due("refused passes()", last.undo(), 9);
        due("now(0)", last.now(0), 98);
    }

    // ---- 3: nights

    private static void nothingIsChanged() {
        MoonRights with = busy();
        for (int k = -2; k < 3; k++) {
            with.least(0, 0, k);
        }
        with.soonest(0, 1, 0);
        with.need(0);
        with.lacks(0);
        with.match(0);
        with.match(1);
        with.lit();
        with.mean(0, 5, 0);
        due("unlike", everything(with).equals(everything(busy())) ? 0 : 1, 0);
    }

    private static void whoeverOwnsIt() {
        MoonRights x = told("f0 1;f0 4;s0 16;m8;e10;");
        leastIs(x, 0, 0, 16, 0, 1, 2, 3, 4, 5, 6);
        leastIs(x, 1, 0, 4, 0);
    }

    private static void fromTheNightToEaster() {
        // Moons by phase 8: 4 3 3 2 2 1 1 0 0 0 1 1 2 2 3 3 4.
        leastIs(told("f0 1;s0 4;m8;e1;"), 0, 0, 4, 0);
        leastIsNone(toldAt("f0 1;s0 4;m8;e1;", 1), 0, 0);
        leastIs(toldAt("f0 1;s0 4;m8;e17;", 1), 0, 0, 4, 16);
        leastIs(toldAt("f0 1;s0 4;m8;e16;", 1), 0, 0, 4, 1, 5);
        leastIs(toldAt("f0 1;s0 4;m8;e17;", 16), 0, 0, 4, 16);
        leastIsNone(toldAt("f0 1;s0 4;m8;e17;", 17), 0, 0);
        leastIsNone(toldAt("f0 1;s0 1;m8;e60;", 60), 0, 0);
        leastIsNone(toldAt("f0 1;s0 1;m8;e60;", 99), 0, 0);
        // Night 59 by phase 13: r is 8.
        leastIs(toldAt("f0 1;s0 4;m13;e60;", 59), 0, 0, 4, 59);
    }

    private static void withoutClouds() {
        leastIs(told("f0 1;s0 4;m8;e17;c0;"), 0, 0, 4, 16);
        leastIs(told("f0 1;s0 4;m8;e17;c0;c16;"), 0, 0, 4, 1, 5);
        leastIsNone(told("f0 1;s0 4;m8;e1;c0;"), 0, 0);
        leastIs(told("f0 1;s0 4;m8;e1;c1;c99;"), 0, 0, 4, 0);
    }

    private static void fewestQuarters() {
        leastIs(told("f0 1;s0 5;m8;e6;"), 0, 0, 5, 0, 5);
        leastIs(told("f0 1;s0 1;m8;e6;"), 0, 0, 1, 5);
        leastIs(told("f0 1;s0 1;m8;e5;"), 0, 0, 2, 3);
        leastIs(told("f0 1;s0 1;m8;e1;"), 0, 0, 4, 0);
        leastIs(told("f0 4;s0 16;m8;e6;"), 0, 0, 4, 0);
        leastIs(told("f0 4;s0 17;m8;e6;"), 0, 0, 5, 0, 5);
        leastIs(told("f0 1;s0 15;m8;e6;"), 0, 0, 15, 0, 1, 2, 3, 4, 5);
        leastIsNone(told("f0 1;s0 16;m8;e6;"), 0, 0);
    }

    private static void fewestNightsThenFirst() {
        leastIs(told("f0 1;s0 4;m8;e16;"), 0, 0, 4, 0);
        leastIs(told("f0 1;s0 6;m8;e16;"), 0, 0, 6, 0, 3);
        leastIs(told("f0 1;s0 5;m8;e16;"), 0, 0, 5, 0, 5);
        leastIs(told("f0 1;s0 2;m8;e16;c3;"), 0, 0, 2, 4);
        leastIs(told("f0 1;s0 9;m8;e16;"), 0, 0, 9, 0, 1, 3);
    }

    private static void theMostOfAll() {
        MoonRights x = told("f0 1;s0 60;m8;e60;");
        due("quarters", x.least(0, 0, -1), 60);
        // Four nights of 4 quarters, then the fewest others: 44 by 3, 3, .. and one of 2.
        due("nights", x.least(0, 0, -2), 19);
        due("the first", x.least(0, 0, 0), 0);
        due("behind the last", x.least(0, 0, 19), -5);
        due("far behind", x.least(0, 0, MOST), -5);
        // All nights of 1 and 2 quarters, and one of 3, have clouds: four of 4 and 15 of 3 are left.
        StringBuilder text = new StringBuilder("f0 1;s0 60;s0 59;e60;c6;");
        for (int n = 0; n < 60; n++) {
            int moon = MOON_BY_R[n % 16];
            text.append(moon == 1 || moon == 2 ? "c" + n + ";" : "");
        }
        MoonRights coarse = told(text.toString());
        due("all of these nights, one quarter too many", coarse.least(0, 0, -1), 61);
        due("all of these nights", coarse.least(0, 0, -2), 19);
        due("the last one", coarse.least(0, 0, 18), 58);
        due("two quarters too many", coarse.least(0, 1, -1), 61);
        due("together", coarse.need(0), 122);
        due("a night is gone", pass(coarse, 8).least(0, 0, -1), NONE);
    }

    private static void doneAlready() {
        MoonRights x = told("f9 4;f0 1;s0 16;m8;e2;");
        x.ploughs(0, 0);
        leastIs(x, 0, 0, 0);
        leastIs(x, 1, 0, 0);
        pass(x, 2);
        leastIs(x, 0, 0, 0);
        pass(x, 97);
        leastIs(x, 0, 0, 0);
    }

    private static void oneOrTwo() {
        MoonRights x = told("f9 1;f9 2;s0 12;m8;");
        due("the first alone: 4, 3, then 2 quarters are left", x.soonest(0, -1, 0), NONE);
        due("the other one alone: 8 and 6", x.soonest(1, -1, 0), 1);
        due("by two: 12", x.soonest(0, 1, 0), 0);
        due("by two", x.soonest(1, 0, 0), 0);
        due("alike", x.soonest(1, 1, 0), BAD);
        due("-2", x.soonest(0, -2, 0), BAD);
        due("NONE is nobody", x.soonest(0, NONE, 0), BAD);
    }

    private static void tillTheLastNight() {
        // Nights 98 and 99 by phase 0: one quarter each.
        String text = "f2 1;f9 1;s0 1;s0 2;s0 3;s0 4;s0 5;";
        MoonRights x = toldAt(text, 98);
        row("in 98: strip", SOONEST_ALONE, x, 98, 99, NONE, NONE, NONE);
        row("in 98: strip by two", SOONEST_BY_TWO, x, 98, 98, 99, 99, NONE);
        x.passes();
        row("in 99: strip", SOONEST_ALONE, x, 99, NONE, NONE, NONE, NONE);
        row("in 99: strip by two", SOONEST_BY_TWO, x, 99, 99, NONE, NONE, NONE);
        due("behind Easter", toldAt("f2 1;s0 1;e1;", 1).soonest(0, -1, 0), 2);
    }

    private static final Call[] SOONEST_ALONE = {
        x -> x.soonest(0, -1, 0), x -> x.soonest(0, -1, 1), x -> x.soonest(0, -1, 2),
        x -> x.soonest(0, -1, 3), x -> x.soonest(0, -1, 4),
    };
    private static final Call[] SOONEST_BY_TWO = {
        x -> x.soonest(0, 1, 0), x -> x.soonest(0, 1, 1), x -> x.soonest(0, 1, 2),
        x -> x.soonest(0, 1, 3), x -> x.soonest(0, 1, 4),
    };

    private static void cloudsUseUp() {
        // Moons by phase 8: 4 3 3 2 2 1 1.
        due("no cloud", told("f4 1;s0 4;m8;").soonest(0, -1, 0), 0);
        due("a cloud takes all quarters", told("f4 1;s0 4;m8;c0;").soonest(0, -1, 0), NONE);
        due("a cloud takes 4 of 7", told("f7 1;s0 3;m8;c0;").soonest(0, -1, 0), 1);
        due("two clouds", told("f7 1;s0 3;m8;c0;c1;").soonest(0, -1, 0), NONE);
        due("a cloud takes those of both", told("f4 1;f7 1;s0 3;m8;c0;").soonest(0, 1, 0), 1);
        due("a cloud cuts nothing", told("f99 1;s0 1;m8;c0;").soonest(0, -1, 0), 1);
        due("a cloud in the last night", toldAt("f99 1;s0 1;c99;", 99).soonest(0, -1, 0), NONE);
        due("the second one's last quarters", told("f0 1;f4 1;s0 4;m8;").soonest(0, 1, 0), 0);
        due("the second one's are used up", told("f0 1;f4 1;s0 5;m8;").soonest(0, 1, 0), NONE);
        due("the first one's are used up", told("f4 1;f0 1;s0 5;m8;").soonest(0, 1, 0), NONE);
    }

    private static void noMoonNobody() {
        due("nights 0 and 1 are dark", told("f9 1;s0 1;").soonest(0, -1, 0), 2);
        due("no quarters by no moon", told("f0 4;s0 1;").soonest(0, -1, 0), NONE);
        due("night 15 to 17 are dark", toldAt("f9 1;s0 1;", 15).soonest(0, -1, 0), 18);
    }

    private static void tooFewWaits() {
        due("as many", told("f4 1;s0 1;m8;").soonest(0, -1, 0), 0);
        due("one too few: in the next night", told("f3 1;s0 1;m8;").soonest(0, -1, 0), 1);
        due("two too few", told("f2 1;s0 1;m8;").soonest(0, -1, 0), 3);
        due("one quarter", told("f1 1;s0 1;m8;").soonest(0, -1, 0), 5);
        due("none", told("f0 1;s0 1;m8;").soonest(0, -1, 0), NONE);
        due("the other one has enough", told("f3 1;f4 1;s0 4;m8;").soonest(0, 1, 0), 0);
        due("the other one has too few", told("f4 1;f3 1;s0 5;m8;").soonest(0, 1, 0), 1);
        due("both have too few", told("f3 1;f3 1;s0 5;m8;").soonest(0, 1, 0), 1);
    }

    private static void ploughedAlready() {
        MoonRights x = told("f9 1;s0 4;s0 1;m8;");
        x.ploughs(0, 1);
        due("soonest(0, -1, 0)", x.soonest(0, -1, 0), 0);
        x.passes();
        due("in the next night", x.soonest(0, -1, 0), 3);
    }

    private static void doneSoonest() {
        MoonRights x = told("f4 4;f0 1;s0 16;m8;");
        x.ploughs(0, 0);
        due("THE NIGHT", x.soonest(0, -1, 0), 0);
        due("by one who has no quarters", x.soonest(1, -1, 0), 0);
        pass(x, 7);
        due("by no moon", x.soonest(0, 1, 0), 7);
        pass(x, 92);
        due("in the last night", x.soonest(0, 1, 0), 99);
    }

    private static void sameNights() {
        due("both in night 0", told("f0 1;s0 4;s0 4;m8;e1;").need(0), 8);
        due("seven strips", told("f0 1;s0 1;s0 1;s0 1;s0 1;s0 1;s0 1;s0 1;m8;e1;").need(0), 28);
        due("no strips", told("f0 1;").need(0), 0);
        due("another one's strips", told("f0 1;f0 1;s0 4;m8;e1;").need(1), 0);
    }

    private static void needIsNone() {
        due("the first has none", told("f0 1;s0 5;s0 4;m8;e1;").need(0), NONE);
        due("the last has none", told("f0 1;s0 4;s0 5;m8;e1;").need(0), NONE);
        due("at Easter", toldAt("f0 1;s0 1;m8;e1;", 1).need(0), NONE);
        MoonRights x = told("f4 1;s0 4;m8;e1;");
        x.ploughs(0, 0);
        due("done at Easter", pass(x, 1).need(0), 0);
    }

    private static void lackAtLeastNone() {
        for (int quarters = 2; quarters < 7; quarters++) {
            due("by " + quarters, told("f" + quarters + " 1;s0 4;m8;e1;").lacks(0), Math.max(0, 4 - quarters));
        }
        due("no need", told("f99 1;s0 5;m8;e1;").lacks(0), NONE);
        due("no strips", told("f0 1;").lacks(0), 0);
    }

    private static void matchWhoLives() {
        MoonRights x = told("f0 1;f9 1;f9 1;s0 4;m8;e1;");
        due("the lowest other one", x.match(0), 1);
        x.dies(1);
        due("he died, his heir has all", x.match(0), NONE);
        MoonRights y = told("f4 1;f0 1;f9 1;s0 4;s1 4;m8;e1;");
        due("1 lacks", y.match(0), 12);
        y.dies(1);
        due("he died, his heir lacks", y.match(0), 2);
        MoonRights dead = told("f9 1;f0 1;f9 1;s1 4;m8;e1;");
        dead.dies(2);
        due("the dead don't match", dead.match(0), 10);
    }

    private static void matchNeitherMarried() {
        MoonRights x = told("f0 1;f9 1;f0 1;f9 1;s0 4;s2 4;m8;e1;");
        due("all are free", x.match(0), 1);
        x.marries(0, 2);
        due("who lacks is married", x.match(0), NONE);
        due("who lacks is married", x.match(1), NONE);
        x.undo();
        x.marries(1, 0);
        due("the first two are", x.match(0), 23);
        x.undo();
        x.marries(1, 3);
        due("who has more is", x.match(0), NONE);
        x.dies(3);
        due("a widower is free, and 0 has as many as he needs by the other half", x.match(0), 21);
    }

    private static void matchLackAndMore() {
        matchIs("f4 1;f9 1;s0 4;m8;e1;", NONE, NONE);
        matchIs("f3 1;f9 1;s0 4;m8;e1;", 1, 1);
        matchIs("f0 1;f4 1;s0 4;s1 4;m8;e1;", NONE, NONE);
        matchIs("f0 1;f5 1;s0 4;s1 4;m8;e1;", 1, 1);
        matchIs("f0 1;f0 1;s0 4;m8;e1;", NONE, NONE);
        matchIs("f0 1;f9 1;s0 5;m8;e1;", NONE, NONE);
        matchIs("f0 1;f99 1;s0 4;s1 5;m8;e1;", NONE, NONE);
        matchIs("f0 1;s0 4;m8;e1;", NONE, NONE);
        matchIs("", NONE, NONE);
    }

    private static void matchMostCovered() {
        matchIs("f0 1;f2 1;f3 1;s0 4;m8;e1;", 2, 3);
        matchIs("f0 1;f4 1;f99 1;s0 4;m8;e1;", 1, 4);
        matchIs("f2 1;f1 1;f9 1;s0 4;s1 4;m8;e1;", 12, 3);
        matchIs("f1 1;f1 1;f2 1;s0 4;s1 4;m8;e1;", 2, 2);
        matchIs("f9 1;f0 1;f0 1;f9 1;s1 4;s2 4;m8;e1;", 10, 4);
        matchIs("f9 1;f9 1;f9 1;f9 1;f0 1;s4 4;m8;e1;", 40, 4);
        matchIs("f0 1;f0 1;f0 1;f0 1;f9 1;s3 4;m8;e1;", 34, 4);
    }

    private static void sixCuts() {
        MoonRights x = told("f9 1;");
        for (int i = 1; i <= 6; i++) {
            due("cut " + i, x.cuts(0, 0, 0), i);
        }
        due("cut 7", x.cuts(0, 0, 0), FULL);
        due("count(4)", x.count(4), 6);
        due("forget()", x.forget(), 6);
        due("there is room again", x.cuts(0, 0, 0), 1);
    }

    private static void cutBounds() {
        MoonRights x = told("f9 1;f9 1;");
        due("no furrows", x.cuts(0, 0, 0), 1);
        due("16 furrows", x.cuts(1, 99, 16), 2);
        due("-1 furrows", x.cuts(0, 0, -1), BAD);
        due("17 furrows", x.cuts(0, 0, 17), BAD);
        due("night -1", x.cuts(0, -1, 0), BAD);
        due("night 100", x.cuts(0, 100, 0), BAD);
        due("a night behind Easter", x.cuts(0, 60, 0), 3);
        x.dies(1);
        due("the dead did cut", x.cuts(1, 0, 0), 4);
    }

    private static void moreThanTheMoon() {
        MoonRights x = told("f9 1;f9 2;f9 3;f9 4;f9 4;m8;");
        for (int k = 0; k < 4; k++) {
            x.cuts(k, 0, 4 * (k + 1));
        }
        due("just as much", x.lit(), 0);
        x.cuts(3, 0, 15);
        due("one less", x.lit(), 0);
        x.forget();
        for (int k = 0; k < 4; k++) {
            x.cuts(k, 1, 3 * (k + 1) + 1);
            due("one more", x.lit(), (2 << k) - 1);
        }
        due("twice the same one", x.cuts(3, 1, 16), 5);
        due("he is one bit", x.lit(), 15);
        x.forget();
        x.cuts(0, 7, 0);
        due("nothing by no moon", x.lit(), 0);
        x.cuts(4, 7, 1);
        due("one by no moon", x.lit(), 16);
        x.cuts(4, 0, 0);
        due("one cut at least", x.lit(), 16);
    }

    private static void moreThanNothing() {
        MoonRights x = told("f9 4;f9 4;m8;c0;c99;");
        x.cuts(0, 0, 0);
        x.cuts(0, 99, 0);
        due("nothing", x.lit(), 0);
        x.cuts(0, 99, 1);
        due("one furrow", x.lit(), 1);
        x.cuts(1, 0, 16);
        due("16 furrows", x.lit(), 3);
    }

    private static void tenths() {
        // One night of 4 quarters.
        int[][] want = {{0, 1}, {2, 5}, {4, 5}, {6, 5}, {8, 5}, {2, 1}, {12, 5}, {14, 5}, {16, 5}, {18, 5}, {4, 1}};
        MoonRights x = told("f9 1;m8;e1;");
        for (int tenths = 0; tenths <= 10; tenths++) {
            meanIs(x, 0, tenths, want[tenths][0], want[tenths][1]);
        }
        due("-1", x.mean(0, -1, 0), BAD);
        due("11", x.mean(0, 11, 0), BAD);
        // One night of 1 quarter.
        MoonRights y = toldAt("f9 1;e3;", 2);
        meanIs(y, 0, 1, 1, 10);
        meanIs(y, 0, 5, 1, 2);
        meanIs(y, 0, 4, 2, 5);
        meanIs(y, 0, 10, 1, 1);
        meanIs(y, 0, 0, 0, 1);
        // Nights of 3, 2 and 2 quarters.
        meanIs(toldAt("f9 1;m8;e5;", 2), 0, 5, 7, 2);
        meanIs(toldAt("f9 1;m8;e5;", 2), 0, 1, 7, 10);
    }

    private static void meanNights() {
        meanIs(told("f9 1;m8;e2;"), 0, 10, 7, 1);
        meanIs(told("f9 1;m8;e2;c1;"), 0, 10, 4, 1);
        meanIs(told("f9 1;m8;e2;c0;c1;"), 0, 10, 0, 1);
        meanIs(told("f9 1;m8;e2;c2;"), 0, 10, 7, 1);
        meanIs(toldAt("f9 1;m8;e2;", 1), 0, 10, 3, 1);
        meanIs(toldAt("f9 1;m8;e2;", 2), 0, 10, 0, 1);
        meanIs(toldAt("f9 1;m8;e2;", 99), 0, 10, 0, 1);
        // 60 nights: three times 16 nights of 28 quarters, and 12 nights of 4 3 3 2 2 1 1 0 0 0 1 1.
        meanIs(told("f0 4;m8;e60;"), 0, 10, (3 * 28 + 18) * 4, 1);
        MoonRights dead = told("f9 1;f9 3;m8;e1;");
        dead.dies(1);
        meanIs(dead, 1, 10, 12, 1);
    }

    private static void fullNights() {
        due("no nights but night 0", told("m8;e1;").now(4), 1);
        due("by a cloud", told("m8;e1;c0;").now(4), 0);
        due("behind it", toldAt("m8;e1;", 1).now(4), 0);
        due("night 16 is Easter", told("m8;e16;").now(4), 1);
        due("night 16 is ahead of Easter", told("m8;e17;").now(4), 2);
        due("in night 16", toldAt("m8;e17;", 16).now(4), 1);
        due("behind night 16", toldAt("m8;e17;", 17).now(4), 0);
        due("up to 60", told("m8;e60;").now(4), 4);
        due("night 59", told("m13;e60;").now(4), 4);
        due("Easter is night 59", told("m13;e59;").now(4), 3);
        due("a new object", new MoonRights().now(4), 2);
    }

    // ---- 4: kinds, images

    private static void kindBounds() {
        MoonRights x = told("f9 2;s0 10;m8;");
        row("rate of kind", RATES, x, 10, 14, 8, 28, 8, 10);
        due("kind -1", x.rate(-1, 0), NO);
        due("kind 6", x.rate(6, 0), NO);
        due("trace()", x.trace(), 1 + 11 + 101 + 1011 + 10101 + 100001);
    }

    private static final Call[] RATES = {
        x -> x.rate(0, 0), x -> x.rate(1, 0), x -> x.rate(2, 0),
        x -> x.rate(3, 0), x -> x.rate(4, 0), x -> x.rate(5, 0),
    };

    private static void eachOnce() {
        long[] steps = {1, 11, 101, 1011, 10101, 100001};
        for (int kind = 0; kind < 6; kind++) {
            MoonRights x = told("f9 2;s0 10;");
            due("at first", x.trace(), 0);
            RATES[kind].on(x);
            due("behind kind " + kind, x.trace(), steps[kind]);
            RATES[kind].on(x);
            due("twice kind " + kind, x.trace(), 2 * steps[kind]);
        }
        MoonRights many = told("f9 2;s0 10;");
        for (int i = 0; i < 400; i++) {
            many.rate(5, 0);
        }
        due("400 times", many.trace(), 40000400);
    }

    private static void rateEdges() {
        MoonRights x = told("f9 4;f0 1;s1 60;s1 1;s1 1;s1 1;s1 1;s1 1;s0 16;m8;");
        x.ploughs(0, 6);
        due("done, STRIP", x.rate(0, 6), 0);
        due("done, CLAY", x.rate(1, 6), 4);
        due("done, SAND: below 0", x.rate(2, 6), -4);
        due("done, MARSH", x.rate(3, 6), 8);
        due("done, HILL: the last strip", x.rate(4, 6), 2);
        due("done, MOOR", x.rate(5, 6), 0);
        due("60 furrows, MARSH", x.rate(3, 0), 128);
        due("the first strip, HILL", x.rate(4, 0), 59);
        pass(x, 99);
        due("night 99, MOOR", x.rate(5, 0), 159);
        // Night 99 by phase 8: r is 11.
        due("night 99, CLAY", x.rate(1, 0), 62);
        x.dies(0);
        due("the heir's oxen", x.rate(2, 6), -1);
    }

    private static void imagesKeep() {
        MoonRights x = told("f9 1;f8 1;f7 1;s0 9;m8;");
        x.ploughs(0, 0);
        x.marries(0, 1);
        x.dies(2);
        long[] kept = seenDoings(x);
        due("keep(1)", x.keep(1), 0);
        x.passes();
        x.ploughs(1, 0);
        x.lends(0, 1, 1);
        x.dies(0);
        due("back(1)", x.back(1), 0);
        due("all is as it was", Arrays.equals(seenDoings(x), kept) ? 1 : 0, 1);
        x.passes();
        due("an image stays", x.back(1), 0);
        due("all is as it was", Arrays.equals(seenDoings(x), kept) ? 1 : 0, 1);
    }

    private static void imagesKeepNothingElse() {
        MoonRights x = told("f9 1;s0 9;");
        x.keep(0);
        x.rate(0, 0);
        x.cuts(0, 0, 5);
        type(x, "c1;");
        x.back(0);
        due("trace()", x.trace(), 1);
        due("cuts", x.count(4), 1);
        due("lit()", x.lit(), 1);
        due("letters", x.count(5), 3);
    }

    private static void nothingUndoneBehindBack() {
        MoonRights x = told("f9 1;");
        pass(x, 3);
        x.keep(0);
        due("keep() undoes nothing", x.now(5), 3);
        x.back(0);
        due("now(5)", x.now(5), 0);
        due("undo()", x.undo(), STATE);
        due("now(0)", x.now(0), 3);
        x.passes();
        due("what is done behind it", x.undo(), 0);
        due("now(0)", x.now(0), 3);
        due("no more", x.undo(), STATE);
    }

    private static void readAnew() {
        MoonRights x = busy();
        x.keep(1);
        x.clear();
        type(x, "f5 2;s0 3;");
        due("parish()", x.parish(), 2);
        due("farmers", x.count(0), 1);
        due("strips", x.count(1), 1);
        due("phase", x.count(2), 0);
        due("Easter", x.count(3), 30);
        due("no cuts", x.count(4), 0);
        due("no letters", x.count(5), 0);
        due("nobody lit", x.lit(), 0);
        due("image 0", x.back(0), STATE);
        due("image 1", x.back(1), STATE);
        due("nothing can be undone", x.undo(), STATE);
        due("THE NIGHT", x.now(0), 0);
        due("done", x.now(1), 0);
        due("who lives", x.now(2), 1);
        due("quarters", x.now(3), 5);
        due("not ploughed", x.farmer(0, 4), 0);
        due("not married", x.farmer(0, 3), NONE);
        due("furrows", x.strip(0, 1), 3);
        due("six cuts again", x.cuts(0, 0, 0), 1);
    }

    /** A text that was told two texts ago, or was refused, leaves nothing behind either. */
    private static void readThrice() {
        MoonRights x = told("f9 4;f9 4;s0 9;s1 9;m8;e5;c0;c50;c99;");
        due("least", x.least(0, 0, -1), 3);
        type(x, "f9 1;s0 5;m6;e7;");
        due("the second text", x.parish(), 4);
        due("least anew", x.least(0, 0, -1), 5);
        type(x, "f9 1;m1;e1;c0;c99;;");
        due("a refused one", x.parish(), -28);
        due("least as ahead of it", x.least(0, 0, -1), 5);
        x.clear();
        due("the third, of nothing", x.parish(), 0);
        int[] counts = {0, 0, 0, 30, 0, 0};
        for (int what = 0; what < 6; what++) {
            due("count(" + what + ")", x.count(what), counts[what]);
        }
        for (int n = 0; n < 100; n++) {
            due("night(" + n + ", 1)", x.night(n, 1), 0);
        }
        due("nobody", x.farmer(0, 0), BAD);
        type(x, "f1 1;f1 1;f1 1;f1 1;f1 1;s0 1;s0 1;s0 1;s0 1;s0 1;s0 1;s0 1;m15;e60;");
        due("a full text behind it", x.parish(), 14);
    }

    // ---- refusals in their order

    private static void badAheadOfState() {
        MoonRights x = toldAt("f9 1;f9 1;s0 9;", 99);
        x.dies(0);
        due("ploughs: the dead, no strip", x.ploughs(0, 1), BAD);
        due("lends: the dead, 100", x.lends(0, 1, 100), BAD);
        due("lends: the dead, none", x.lends(1, 0, 0), BAD);
        due("lends: the dead, alike", x.lends(0, 0, 1), BAD);
        due("marries: the dead, alike", x.marries(0, 0), BAD);
        due("marries: the dead, nobody", x.marries(0, 2), BAD);
        due("dies: nobody", x.dies(2), BAD);
        due("back: no image", x.back(2), BAD);
        due("back: none kept", x.back(1), STATE);
    }

    private static void badAheadOfFull() {
        MoonRights text = fullText();
        due("type(256)", text.type(256), BAD);
        due("type(-1)", text.type(-1), BAD);
        due("type(0)", text.type(0), FULL);
        MoonRights cuts = fullCuts();
        due("no farmer", cuts.cuts(1, 0, 0), BAD);
        due("no night", cuts.cuts(0, 100, 0), BAD);
        due("17 furrows", cuts.cuts(0, 0, 17), BAD);
        due("one more", cuts.cuts(0, 0, 0), FULL);
    }

    private static void badChangesNothing() {
        for (int wild : new int[] {LEAST, -100, 100000, MOST}) {
            String by = " by " + wild;
            bad("type" + by, x -> x.type(wild));
            bad("farmer" + by, x -> x.farmer(wild, 0));
            bad("strip" + by, x -> x.strip(wild, 0));
            bad("night" + by, x -> x.night(wild, 0));
            bad("now" + by, x -> x.now(wild));
            bad("ploughs" + by, x -> x.ploughs(wild, 2));
            bad("ploughs, strip" + by, x -> x.ploughs(1, wild));
            bad("lends, from" + by, x -> x.lends(wild, 0, 1));
            bad("lends, to" + by, x -> x.lends(0, wild, 1));
            bad("lends, n" + by, x -> x.lends(0, 1, wild));
            bad("marries, a" + by, x -> x.marries(wild, 2));
            bad("marries, b" + by, x -> x.marries(2, wild));
            bad("dies" + by, x -> x.dies(wild));
            bad("least" + by, x -> x.least(wild, 0, 0));
            bad("soonest" + by, x -> x.soonest(0, wild, 0));
            bad("need" + by, x -> x.need(wild));
            bad("lacks" + by, x -> x.lacks(wild));
            bad("match" + by, x -> x.match(wild));
            bad("cuts, farmer" + by, x -> x.cuts(wild, 0, 0));
            bad("cuts, night" + by, x -> x.cuts(0, wild, 0));
            bad("cuts, n" + by, x -> x.cuts(0, 0, wild));
            bad("mean" + by, x -> x.mean(0, wild, 0));
            refused("rate, kind" + by, BoundariesTest::busy, x -> x.rate(wild, 0), NO);
            refused("rate, strip" + by, BoundariesTest::busy, x -> x.rate(0, wild), NO);
            bad("keep" + by, x -> x.keep(wild));
            bad("back" + by, x -> x.back(wild));
            bad("count" + by, x -> x.count(wild));
        }
    }

    private static void stateChangesNothing() {
        state("ploughs: he did", x -> x.ploughs(0, 2));
        state("ploughs: it is done", x -> x.ploughs(1, 1));
        state("ploughs: not his", x -> x.ploughs(2, 0));
        state("ploughs: no quarters", x -> x.ploughs(2, 3));
        state("ploughs: he is dead", x -> x.ploughs(3, 0));
        state("lends: he is dead", x -> x.lends(3, 0, 1));
        state("lends: to the dead", x -> x.lends(0, 3, 1));
        state("lends: not so many", x -> x.lends(2, 0, 1));
        state("marries: the first is married", x -> x.marries(0, 2));
        state("marries: the second is", x -> x.marries(2, 1));
        state("marries: the first is dead", x -> x.marries(3, 2));
        state("marries: the second is", x -> x.marries(2, 3));
        state("dies: he is dead", x -> x.dies(3));
        state("back: none was kept", x -> x.back(1));
        refused("passes: it is 99", () -> toldAt("f1 1;s0 1;", 99), x -> x.passes(), STATE);
        refused("dies: no other one", () -> toldAt("f1 1;s0 1;", 3), x -> x.dies(0), STATE);
        refused("ploughs: no moon", () -> toldAt("f9 1;s0 1;", 1), x -> x.ploughs(0, 0), STATE);
        refused("undo: none", () -> told("f9 1;s0 1;"), x -> x.undo(), STATE);
    }

    private static void fullChangesNothing() {
        refused("type", BoundariesTest::fullText, x -> x.type('x'), FULL);
        refused("cuts", BoundariesTest::fullCuts, x -> x.cuts(0, 0, 16), FULL);
    }

    private static void faultChangesNothing() {
        for (String text : new String[] {"x", "f1 1;f1 1;s1 9;m3;e9;c1;c", "m16;", "c01;"}) {
            Supplier<MoonRights> make = () -> {
                MoonRights x = busy();
                x.clear();
                type(x, text);
                return x;
            };
            MoonRights known = make.get();
            refused("parish() of " + text, make, x -> x.parish(), known.parish());
        }
        MoonRights x = told("");
        type(x, "c1");
        due("too early", x.parish(), -12);
        due("the text stays", x.count(5), 2);
        x.type(';');
        due("and can be told to its end", x.parish(), 1);
        due("then it is empty", x.count(5), 0);
    }

    // ---- the promises, by their numbers

    private static void asToldAndNobody() {
        told("f9 1;s0 9;m4;e4;c1;").passes();
        MoonRights x = new MoonRights();
        int[] counts = {0, 0, 0, 30, 0, 0};
        int[] nows = {0, 0, 0, 0, 2, 0};
        for (int what = 0; what < 6; what++) {
            due("count(" + what + ")", x.count(what), counts[what]);
            due("now(" + what + ")", x.now(what), nows[what]);
        }
        due("nobody", x.farmer(0, 0), BAD);
        due("no strip", x.strip(0, 0), BAD);
        due("nobody ploughs", x.ploughs(0, 0), BAD);
        due("nobody lends", x.lends(0, 1, 1), BAD);
        due("nobody marries", x.marries(0, 1), BAD);
        due("nobody dies", x.dies(0), BAD);
        due("nobody's least", x.least(0, 0, -1), BAD);
        due("nobody's soonest", x.soonest(0, -1, 0), BAD);
        due("nobody's need", x.need(0), BAD);
        due("nobody lacks", x.lacks(0), BAD);
        due("nobody matches", x.match(0), NONE);
        due("nobody cuts", x.cuts(0, 0, 0), BAD);
        due("nobody lit", x.lit(), 0);
        due("nobody's mean", x.mean(0, 0, 0), BAD);
        due("no rate", x.rate(0, 0), NO);
        due("no image", x.back(0), STATE);
        due("nothing to undo", x.undo(), STATE);
        due("no trace", x.trace(), 0);
        due("a night goes by all the same", x.passes(), 1);
    }

    private static void letterBounds() {
        MoonRights x = new MoonRights();
        due("type(-1)", x.type(-1), BAD);
        due("type(0)", x.type(0), 1);
        due("type(255)", x.type(255), 2);
        due("type(256)", x.type(256), BAD);
        due("count(5)", x.count(5), 2);
        for (int n = 3; n <= 200; n++) {
            due("type(32)", x.type(32), n);
        }
        due("letter 201", x.type(32), FULL);
        due("letter 202", x.type(32), FULL);
        due("count(5)", x.count(5), 200);
    }

    private static void emptyText() {
        MoonRights x = new MoonRights();
        due("none", x.clear(), 0);
        x.type('x');
        due("one", x.clear(), 1);
        due("none again", x.clear(), 0);
        type(x, "x".repeat(201));
        due("all 200", x.clear(), 200);
        due("nothing of it is left", x.parish(), 0);
        due("there is room", x.type('c'), 1);
    }

    private static void howManyItems() {
        items("", 0);
        items("c0;", 1);
        // 66 items of three letters, and two blanks: 200 letters.
        items("c0;".repeat(66) + "  ", 66);
        items("f1 1;f1 1;f1 1;f1 1;f1 1;s0 1;s0 1;s0 1;s0 1;s0 1;s0 1;s0 1;m1;e1;c1;", 15);
        MoonRights x = told("f9 1;s0 9;");
        due("a text of nothing tells nobody", x.parish(), 0);
        due("nobody", x.count(0), 0);
        due("no strips", x.count(1), 0);
        fault("x", 0);
        fault(" ".repeat(199) + "x", 199);
    }

    private static void farmerAnswers() {
        MoonRights x = told("f1 1;f2 2;");
        due("farmer -1", x.farmer(-1, 0), BAD);
        due("farmer 0", x.farmer(0, 0), 1);
        due("farmer 1", x.farmer(1, 0), 2);
        due("farmer 2", x.farmer(2, 0), BAD);
        due("what -1", x.farmer(0, -1), BAD);
        due("what 4", x.farmer(0, 4), 0);
        due("what 5", x.farmer(0, 5), BAD);
        due("married to nobody", x.farmer(0, 3), NONE);
        x.marries(0, 1);
        due("married to 0", x.farmer(1, 3), 0);
    }

    private static void stripAnswers() {
        MoonRights x = told("f1 1;s0 1;s0 60;");
        due("strip -1", x.strip(-1, 0), BAD);
        due("strip 0", x.strip(0, 1), 1);
        due("strip 1", x.strip(1, 1), 60);
        due("strip 2", x.strip(2, 0), BAD);
        due("what -1", x.strip(0, -1), BAD);
        due("what 2", x.strip(0, 2), 1);
        due("what 3", x.strip(0, 3), BAD);
    }

    private static void nightAnswers() {
        MoonRights x = told("m8;c99;");
        due("night -1", x.night(-1, 0), BAD);
        due("night 0", x.night(0, 0), 4);
        due("night 99", x.night(99, 1), 1);
        due("night 100", x.night(100, 0), BAD);
        due("what -1", x.night(0, -1), BAD);
        due("what 2", x.night(0, 2), BAD);
    }

    private static void nowAnswers() {
        MoonRights x = told("f99 1;f99 1;f99 1;f99 1;f99 4;s4 1;s4 1;s4 1;s4 1;s4 1;s4 1;s4 1;m8;");
        due("what -1", x.now(-1), BAD);
        due("what 6", x.now(6), BAD);
        due("none is done", x.now(1), 0);
        due("all live", x.now(2), 31);
        due("all quarters", x.now(3), 495);
        x.ploughs(4, 6);
        due("the last strip's bit", x.now(1), 64);
        for (int s = 0; s < 6; s++) {
            x.passes();
            x.ploughs(4, s);
        }
        due("all are done", x.now(1), 127);
        due("at most ten", x.now(5), 10);
        for (int k = 1; k < 5; k++) {
            x.dies(k);
        }
        due("one lives", x.now(2), 1);
        due("nothing is lost but what was used: 4 3 3 2 2 1 1", x.now(3), 495 - 16);
    }

    private static void undoAnswers() {
        MoonRights x = told("f9 1;");
        due("none", x.undo(), STATE);
        x.passes();
        due("the only one", x.undo(), 0);
        due("none again", x.undo(), STATE);
        pass(x, 10);
        due("nine more", x.undo(), 9);
        pass(x, 2);
        due("ten again", x.now(5), 10);
    }

    private static void leastAnswers() {
        MoonRights x = told("f0 1;f0 1;s0 5;m8;e6;");
        due("k = -3", x.least(0, 0, -3), BAD);
        due("k at the least", x.least(0, 0, LEAST), BAD);
        due("k = -2", x.least(0, 0, -2), 2);
        due("k = -1", x.least(0, 0, -1), 5);
        due("k = 0", x.least(0, 0, 0), 0);
        due("k = 1", x.least(0, 0, 1), 5);
        due("k = 2", x.least(0, 0, 2), -5);
        due("k at the most", x.least(0, 0, MOST), -5);
        due("farmer -1", x.least(-1, 0, 0), BAD);
        due("farmer 2", x.least(2, 0, 0), BAD);
        due("strip -1", x.least(0, -1, 0), BAD);
        due("strip 1", x.least(0, 1, 0), BAD);
        x.passes();
        pass(x, 5);
        due("NONE", x.least(0, 0, 0), NONE);
        due("BAD ahead of NONE", x.least(0, 0, -3), BAD);
    }

    private static void soonestAnswers() {
        MoonRights x = told("f9 1;f9 1;s0 4;m8;");
        due("a second one of -2", x.soonest(0, -2, 0), BAD);
        due("a second one of -1", x.soonest(0, -1, 0), 0);
        due("a second one of 0", x.soonest(1, 0, 0), 0);
        due("a second one of 2", x.soonest(0, 2, 0), BAD);
        due("a first one of -1", x.soonest(-1, 0, 0), BAD);
        due("both -1", x.soonest(-1, -1, 0), BAD);
        due("a first one of 2", x.soonest(2, 0, 0), BAD);
        due("alike ones", x.soonest(0, 0, 0), BAD);
        due("strip -1", x.soonest(0, 1, -1), BAD);
        due("strip 1", x.soonest(0, 1, 1), BAD);
        x.ploughs(0, 0);
        due("alike ones, though it is done", x.soonest(1, 1, 0), BAD);
    }

    private static void farmerOnly(Call low, Call high, Call within, long due) {
        MoonRights x = told("f9 1;f0 1;s1 4;m8;e1;");
        due("farmer -1", low.on(x), BAD);
        due("farmer 2", high.on(x), BAD);
        due("farmer 1", within.on(x), due);
    }

    private static void matchAnswers() {
        MoonRights x = told("f9 1;f0 1;s1 4;m8;e1;");
        due("what -1", x.match(-1), BAD);
        due("what 0", x.match(0), 10);
        due("what 1", x.match(1), 4);
        due("what 2", x.match(2), BAD);
        due("BAD ahead of NONE", new MoonRights().match(2), BAD);
        due("NONE", new MoonRights().match(1), NONE);
    }

    private static void cutsAnswers() {
        MoonRights x = told("f9 1;");
        due("farmer -1", x.cuts(-1, 0, 0), BAD);
        due("farmer 1", x.cuts(1, 0, 0), BAD);
        due("nothing was cut", x.count(4), 0);
        due("one", x.cuts(0, 0, 0), 1);
    }

    private static void forgetAnswers() {
        MoonRights x = fullCuts();
        due("six", x.forget(), 6);
        due("none", x.forget(), 0);
        due("nobody lit", x.lit(), 0);
        due("a new object", new MoonRights().forget(), 0);
    }

    private static void litAnswers() {
        due("nobody", new MoonRights().lit(), 0);
        MoonRights x = told("f9 4;f9 4;f9 4;f9 4;f9 4;");
        for (int k = 0; k < 5; k++) {
            x.cuts(k, 0, 1);
        }
        due("all five", x.lit(), 31);
    }

    private static void meanAnswers() {
        MoonRights x = told("f9 1;f9 1;m8;e1;");
        due("farmer -1", x.mean(-1, 0, 0), BAD);
        due("farmer 2", x.mean(2, 0, 0), BAD);
        due("what -1", x.mean(0, 5, -1), BAD);
        due("what 2", x.mean(0, 5, 2), BAD);
        due("x -1", x.mean(0, -1, 1), BAD);
        due("x 11", x.mean(0, 11, 1), BAD);
        meanIs(x, 0, 0, 0, 1);
    }

    private static void rateAnswers() {
        MoonRights x = told("f9 1;s0 4;");
        due("kind -1", x.rate(-1, 0), NO);
        due("kind 6", x.rate(6, 0), NO);
        due("strip -1", x.rate(0, -1), NO);
        due("strip 1", x.rate(0, 1), NO);
        due("what is refused leaves no trace", x.trace(), 0);
        due("kind 0", x.rate(0, 0), 4);
        due("kind 5", x.rate(5, 0), 4);
    }

    private static void keepAnswers() {
        MoonRights x = told("f9 1;");
        due("image -1", x.keep(-1), BAD);
        due("image 2", x.keep(2), BAD);
        due("image 0", x.keep(0), 0);
        pass(x, 99);
        due("image 1 in the last night", x.keep(1), 99);
        due("image 0 is another one", x.back(0), 0);
        due("image 1 is as it was", x.back(1), 99);
        x.back(0);
        x.passes();
        due("image 1 anew", x.keep(1), 1);
        x.passes();
        due("it takes the old one's place", x.back(1), 1);
    }

    private static void backAnswers() {
        MoonRights x = told("f9 1;");
        due("image -1", x.back(-1), BAD);
        due("image 2", x.back(2), BAD);
        due("image 0", x.back(0), STATE);
        due("image 1", x.back(1), STATE);
        x.keep(1);
        due("image 0 still", x.back(0), STATE);
        due("image 1", x.back(1), 0);
    }

    private static void countAnswers() {
        MoonRights x = told("m15;e60;");
        due("what -1", x.count(-1), BAD);
        due("what 6", x.count(6), BAD);
        due("phase", x.count(2), 15);
        due("Easter", x.count(3), 60);
    }

    private static void traceAnswers() {
        MoonRights x = told("f9 1;s0 4;");
        due("at first", x.trace(), 0);
        x.rate(3, 0);
        due("behind MARSH", x.trace(), 1011);
        due("again", x.trace(), 1011);
        x.passes();
        x.rate(4, 0);
        x.undo();
        due("it is not undone", x.trace(), 1011 + 10101);
    }

    private static void fiveHundredTwelve() {
        MoonRights x = new MoonRights();
        type(x, "f9 1;s0 9;");
        x.parish();
        for (int i = 0; i < 500; i++) {
            if (i % 2 == 0) {
                x.passes();
            } else {
                x.undo();
            }
        }
        due("call 512", x.passes(), 1);
    }

    private static void constants() {
        due("NO", NO, -1000000);
        due("BAD", BAD, -1);
        due("STATE", STATE, -2);
        due("FULL", FULL, -3);
        due("NONE", NONE, -9);
    }

    // ---- the document, from its beginning to its end

    private static void sayText() throws Exception {
        says("(5 at most)", BoundariesTest::fiveFarmers);
        says("QUARTERS (0 .. 99)", BoundariesTest::quartersTold);
        says("OXEN (1 .. 4)", BoundariesTest::oxenTold);
        says("STRIPS 0 .. (7 at most)", BoundariesTest::sevenStrips);
        says("OWNER (a FARMER)", BoundariesTest::ownersTold);
        says("FURROWS (1 .. 60)", BoundariesTest::furrowsTold);
        says("PHASE (0 .. 15; 0 at first)", BoundariesTest::phaseTold);
        says("CLOUDS: nights (0 .. 99)", BoundariesTest::cloudsTold);
        says("EASTER (1 .. 60; 30 at first)", BoundariesTest::easterTold);
        says("the night that is none any more", BoundariesTest::easterIsNoNight);
        says("They are a text (200 letters at most)", BoundariesTest::twoHundredLetters);
        says("told letter by letter, blanks (32) between TOKENS", BoundariesTest::blanksOnly);
        says("ITEMS, each ended by ;", BoundariesTest::itemsEnded);
        says("f Q X (a FARMER)", BoundariesTest::farmerItems);
        says("s K N (a STRIP of a FARMER told ahead)", BoundariesTest::toldAhead);
        says("c N (a CLOUD; told again: as it is)", BoundariesTest::cloudsAgain);
        says("m N (PHASE), e N (EASTER; once at most each)", BoundariesTest::onceEach);
        says("TOKENS are the letters f, s, c, m, e, NUMBERS and ; .", BoundariesTest::everyLetter);
        says("FAULT: the place of the first letter of the first TOKEN that can't stand there", BoundariesTest::firstFault);
        says("(a sixth f, an eighth s, m, e again, a FARMER that there is not, a NUMBER beyond what it may be, too)",
            BoundariesTest::tooManyOrAgain);
        says("of any other letter,", BoundariesTest::everyLetterWithin);
        says("a NUMBER above 99 or with a 0 ahead of others, that TOKEN's", BoundariesTest::wrongNumbers);
        says("the text's length, if it ends too early", BoundariesTest::endsTooEarly);
    }

    private static void sayDoings() throws Exception {
        says("THE NIGHT is 0 at first (99 at most)", BoundariesTest::nightsAtMost);
        says("r is what is left over of the night and PHASE, together, by 16", BoundariesTest::moonWraps);
        says("it is r by 2, cut, if r is 8 or less, else (16 less r) by 2, cut: 0 .. 4 quarters", BoundariesTest::moonCut);
        says("All FARMERS live, nobody is married, FURROWS of all STRIPS are to be cut, at first", BoundariesTest::atFirst);
        says("a STRIP that is not done (FURROWS left)", BoundariesTest::doneStripsAreNotPloughed);
        says("by a FARMER who lives", BoundariesTest::theDeadDoNotPlough);
        says("is its OWNER, or married to him", BoundariesTest::ownersAndMates);
        says("has not PLOUGHED in this NIGHT", BoundariesTest::onceInANight);
        says("if MOON is 1 or more", BoundariesTest::someMoon);
        says("he has as many QUARTERS", BoundariesTest::asManyQuarters);
        says("they are used up", BoundariesTest::usedUp);
        says("if the night has no CLOUD", BoundariesTest::cloudsCutNothing);
        says("MOON times OXEN FURROWS less are left (0 at least)", BoundariesTest::furrowsAtLeastNone);
        says("LENT: n (1 .. 99) QUARTERS of one FARMER who lives go to another one who does", BoundariesTest::lentBounds);
        says("go to another one who does (999 at most)", BoundariesTest::lentUpToTheMost);
        says("MARRIED: two who live, neither married", BoundariesTest::marriedBounds);
        says("DIED: a FARMER (another one lives)", BoundariesTest::anotherOneLives);
        says("his HEIR is to whom he is married, else the lowest other one who lives", BoundariesTest::heirs);
        says("the half, cut, of his QUARTERS goes to the lowest other one who lives, the rest to his HEIR",
            BoundariesTest::halves);
        says("(999 at most each; what is beyond is lost)", BoundariesTest::nothingLostBelowTheMost);
        says("his STRIPS go to his HEIR", BoundariesTest::inherited);
        says("who was married to him is not any more", BoundariesTest::widowed);
        says("he has 0 QUARTERS", BoundariesTest::theDeadHaveNothing);
        says("UNDONE: the latest ploughs(), passes(), lends(), marries(), dies()", BoundariesTest::undoneEach);
        says("that was not refused", BoundariesTest::refusedOnesAreNotUndone);
        says("(10 are known, older ones are lost)", BoundariesTest::tenKnown);
    }

    private static void sayNights() throws Exception {
        says("(As things are NOW; nothing is changed.)", BoundariesTest::nothingIsChanged);
        says("(whoever owns it, however many QUARTERS he has)", BoundariesTest::whoeverOwnsIt);
        says("of all sets of nights from THE NIGHT to the one ahead of EASTER", BoundariesTest::fromTheNightToEaster);
        says("without CLOUDS, in which, PLOUGHED by him, it is done", BoundariesTest::withoutClouds);
        says("that of fewest QUARTERS", BoundariesTest::fewestQuarters);
        says("of several that of fewest nights, of these the first (the first night, then the second, ..)",
            BoundariesTest::fewestNightsThenFirst);
        says("the k-th (-5: not so many); NONE", BoundariesTest::theMostOfAll);
        says("(Done already: 0, no nights.)", BoundariesTest::doneAlready);
        says("(unlike ones; -1 for the second: the first alone)", BoundariesTest::oneOrTwo);
        says("in each night from THE NIGHT on till 99", BoundariesTest::tillTheLastNight);
        says("by MOON and CLOUDS, QUARTERS of each used up as told", BoundariesTest::cloudsUseUp);
        says("by MOON 0 nobody ploughs", BoundariesTest::noMoonNobody);
        says("who has too few does not plough in that night", BoundariesTest::tooFewWaits);
        says("that one PLOUGHED in THE NIGHT already does not matter", BoundariesTest::ploughedAlready);
        says("THE NIGHT, if it is done; NONE", BoundariesTest::doneSoonest);
        says("together (nights may be the same)", BoundariesTest::sameNights);
        says("NONE (one of them has none)", BoundariesTest::needIsNone);
        says("what NEED is more than his QUARTERS (0 at least; NONE: no NEED)", BoundariesTest::lackAtLeastNone);
        says("of all twos of FARMERS who live", BoundariesTest::matchWhoLives);
        says("neither married, the one with a LACK", BoundariesTest::matchNeitherMarried);
        says("the one with a LACK, the other one with more QUARTERS than NEED", BoundariesTest::matchLackAndMore);
        says("that by which most of the LACK is covered, of several the lowest, then the other lowest",
            BoundariesTest::matchMostCovered);
        says("CUT (6 at most)", BoundariesTest::sixCuts);
        says("a FARMER cut n (0 .. 16) FURROWS in a night (0 .. 99)", BoundariesTest::cutBounds);
        says("one of whose CUTS at least is more than MOON times his OXEN in that night", BoundariesTest::moreThanTheMoon);
        says("(by a CLOUD: more than 0)", BoundariesTest::moreThanNothing);
        says("MEAN of a FARMER by x (0 .. 10)", BoundariesTest::tenths);
        says("what he loses from THE NIGHT till EASTER, if he ploughs in each night without a told CLOUD",
            BoundariesTest::meanNights);
        says("FULL NIGHTS from THE NIGHT till EASTER without CLOUDS by MOON 4", BoundariesTest::fullNights);
    }

    private static void sayKinds() throws Exception {
        says("KINDS of STRIPS are over one another: 0 STRIP; 1 CLAY, 2 SAND, 5 MOOR", BoundariesTest::kindBounds);
        says("added to THE TRACE, 0 at first, as often as rate() asks that body: each once", BoundariesTest::eachOnce);
        says("SAND up less OXEN of its OWNER (100).", BoundariesTest::rateEdges);
        says("IMAGES 0, 1 keep NOW", BoundariesTest::imagesKeep);
        says("nothing else", BoundariesTest::imagesKeepNothingElse);
        says("(nothing can be UNDONE behind back())", BoundariesTest::nothingUndoneBehindBack);
        says("(Read anew: as told, no CUTS, IMAGES are gone.)", BoundariesTest::readAnew);
        says("Refused, and nothing changes, the first of these: BAD", BoundariesTest::badChangesNothing);
        says("(a number is not as told, or there is no such thing), STATE (as told)", BoundariesTest::badAheadOfState);
        says("STATE (as told), FULL", BoundariesTest::badAheadOfFull);
        says("Refused, and nothing changes", BoundariesTest::stateChangesNothing);
        says("nothing changes, the first of these", BoundariesTest::fullChangesNothing);
        says("`NO = -1000000`", BoundariesTest::constants);
        says("An object is used for at most 512 calls after it has been made", BoundariesTest::fiveHundredTwelve);
    }

    private static void promiseDoings() throws Exception {
        promise(1, "As told; nobody, no STRIPS.", BoundariesTest::asToldAndNobody);
        promise(2, "A letter (0 .. 255) comes to THE TEXT: how many it has. BAD; FULL.", BoundariesTest::letterBounds);
        promise(3, "THE TEXT is empty: how many letters it had.", BoundariesTest::emptyText);
        promise(4, "THE TEXT tells all anew, and is empty then: how many ITEMS.", BoundariesTest::howManyItems);
        promise(4, "THE TEXT tells all anew, and is empty then", BoundariesTest::readThrice);
        promise(4, "-10 less FAULT: nothing changes.", BoundariesTest::faultChangesNothing);
        promise(5, "3 to whom he is married (NONE), 4 whether he PLOUGHED in THE NIGHT (1, 0). BAD.", BoundariesTest::farmerAnswers);
        promise(6, "Of a STRIP: 0 OWNER, 1 FURROWS left, 2 FURROWS as told. BAD.", BoundariesTest::stripAnswers);
        promise(7, "Of a night (0 .. 99): 0 MOON, 1 whether it has a CLOUD (1, 0). BAD.", BoundariesTest::nightAnswers);
        promise(8, "5 how many may be UNDONE. BAD.", BoundariesTest::nowAnswers);
        promise(9, "PLOUGHED: FURROWS that are left. BAD; STATE (as told).", () -> {
            bad("farmer -1", x -> x.ploughs(-1, 0));
            bad("farmer 4", x -> x.ploughs(4, 0));
            bad("strip -1", x -> x.ploughs(0, -1));
            bad("strip 4", x -> x.ploughs(0, 4));
            due("within", busy().ploughs(1, 0), 3);
        });
        promise(10, "A NIGHT goes by: THE NIGHT. STATE: it is 99.", () -> {
            MoonRights x = toldAt("f9 1;s0 9;", 98);
            x.ploughs(0, 0);
            due("the last one", x.passes(), 99);
            due("he may plough again", x.ploughs(0, 0), 7);
            due("no more", x.passes(), STATE);
            due("he has ploughed still", x.farmer(0, 4), 1);
        });
        promise(11, "LENT: QUARTERS that the second one has then. BAD (alike ones, too);", () -> {
            bad("alike", x -> x.lends(0, 0, 1));
            bad("from -1", x -> x.lends(-1, 0, 1));
            bad("from 4", x -> x.lends(4, 0, 1));
            bad("to -1", x -> x.lends(0, -1, 1));
            bad("to 4", x -> x.lends(0, 4, 1));
            bad("none", x -> x.lends(0, 1, 0));
            bad("-1", x -> x.lends(0, 1, -1));
            bad("100", x -> x.lends(0, 1, 100));
        });
        promise(11, "STATE: one does not live, there are not so many, it would be above 999.", () -> {
            MoonRights x = told("f9 1;f8 1;");
            due("ten of nine", x.lends(0, 1, 10), STATE);
            due("nine of nine", x.lends(0, 1, 9), 17);
            x.dies(0);
            due("he does not live", x.lends(1, 0, 1), STATE);
        });
        promise(12, "MARRIED: QUARTERS of both together. BAD (alike ones, too); STATE (as told).", () -> {
            bad("alike", x -> x.marries(2, 2));
            bad("a -1", x -> x.marries(-1, 2));
            bad("a 4", x -> x.marries(4, 2));
            bad("b -1", x -> x.marries(2, -1));
            bad("b 4", x -> x.marries(2, 4));
            due("no quarters", told("f0 1;f0 1;").marries(0, 1), 0);
            due("the most", told("f99 1;f99 1;").marries(1, 0), 198);
        });
        promise(13, "DIED: who has his STRIPS. BAD; STATE: he does not live, no other one does.", () -> {
            bad("-1", x -> x.dies(-1));
            bad("4", x -> x.dies(4));
            MoonRights x = told("f9 1;f8 1;");
            due("who has no strips", x.dies(0), 1);
            due("he does not live", x.dies(0), STATE);
            due("no other one does", x.dies(1), STATE);
        });
        promise(14, "UNDONE: how many more may be. STATE: none.", BoundariesTest::undoAnswers);
    }

    private static void promiseAnswers() throws Exception {
        promise(15, "QUARTERS (k = -1), how many nights (k = -2), the k-th (-5); NONE. BAD (below -2).", BoundariesTest::leastAnswers);
        promise(16, "SOONEST; NONE. BAD (a second one below -1, alike ones, too).", BoundariesTest::soonestAnswers);
        promise(17, "NEED; NONE. BAD.", () -> farmerOnly(x -> x.need(-1), x -> x.need(2), x -> x.need(1), 4));
        promise(18, "LACKS; NONE. BAD.", () -> farmerOnly(x -> x.lacks(-1), x -> x.lacks(2), x -> x.lacks(1), 4));
        promise(19, "MATCH (what = 0), how much of the LACK is covered (1); NONE. BAD.", BoundariesTest::matchAnswers);
        promise(20, "CUT: how much there is. BAD; FULL.", BoundariesTest::cutsAnswers);
        promise(21, "Nothing was CUT: how much there was.", BoundariesTest::forgetAnswers);
        promise(22, "LIT, as bits.", BoundariesTest::litAnswers);
        promise(23, "MEAN: upper (what = 0), lower number (1), in least terms. BAD.", BoundariesTest::meanAnswers);
        promise(24, "RATE. NO: BAD.", BoundariesTest::rateAnswers);
        promise(25, "An IMAGE is kept: THE NIGHT. BAD.", BoundariesTest::keepAnswers);
        promise(26, "All of that becomes as an IMAGE has it: THE NIGHT. BAD; STATE: none was kept.", BoundariesTest::backAnswers);
        promise(27, "4 CUTS, 5 letters of THE TEXT. BAD.", BoundariesTest::countAnswers);
        promise(28, "THE TRACE.", BoundariesTest::traceAnswers);
    }

    public static void main(String[] args) throws Exception {
        readDocument();
        sayText();
        sayDoings();
        sayNights();
        sayKinds();
        promiseDoings();
        promiseAnswers();
        sentence = "Promise 1 .. Promise 28";
        due("promises that have a test", PROMISED.size(), 28);
        System.out.println(sentences + " sentences, " + wrong + " answers of theirs not as due");
        System.exit(wrong == 0 ? 0 : 1);
    }
}
