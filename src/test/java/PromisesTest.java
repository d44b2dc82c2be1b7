import java.util.function.LongSupplier;

/** Each promise of the document: ordinary inputs, the edges it names, wrong inputs. */
public final class PromisesTest {
    private static final int BAD = MoonRights.BAD, STATE = MoonRights.STATE, FULL = MoonRights.FULL;
    private static final int NONE = MoonRights.NONE, NO = MoonRights.NO;
    private static final int[] WILD = {Integer.MIN_VALUE, -1000, 1000, Integer.MAX_VALUE};

    private static int promise;
    private static int wrong;

    private static void due(String call, long got, long want) {
        if (got != want) {
            wrong++;
            System.out.println("promise " + promise + ": " + call + " answered " + got + ", due is " + want);
        }
    }

    private static void tell(MoonRights x, String text) {
        for (int i = 0; i < text.length(); i++) {
            x.type(text.charAt(i));
        }
    }

    private static MoonRights parish(String text, int items) {
        MoonRights x = new MoonRights();
        tell(x, text);
        due("parish() of " + text, x.parish(), items);
        return x;
    }

    private static void pass(MoonRights x, int nights) {
        for (int i = 0; i < nights; i++) {
            x.passes();
        }
    }

    private static void fault(String text, int place) {
        MoonRights x = parish("f7 3;s0 5;c4;m2;e9;", 5);
        x.passes();
        x.cuts(0, 1, 1);
        x.keep(1);
        tell(x, text);
        due("parish() of " + text, x.parish(), -10 - place);
        due("letters behind a fault", x.count(5), text.length());
        due("farmers behind a fault", x.count(0), 1);
        due("strips behind a fault", x.count(1), 1);
        due("phase behind a fault", x.count(2), 2);
        due("Easter behind a fault", x.count(3), 9);
        due("cuts behind a fault", x.count(4), 1);
        due("night behind a fault", x.now(0), 1);
        due("cloud behind a fault", x.night(4, 1), 1);
        due("undo known behind a fault", x.now(5), 1);
        due("image behind a fault", x.back(1), 1);
    }

    private static void newObject() {
        promise = 1;
        MoonRights x = new MoonRights();
        int[] counts = {0, 0, 0, 30, 0, 0};
        for (int what = 0; what < 6; what++) {
            due("count(" + what + ")", x.count(what), counts[what]);
        }
        int[] nows = {0, 0, 0, 0, 2, 0};
        for (int what = 0; what < 6; what++) {
            due("now(" + what + ")", x.now(what), nows[what]);
        }
        due("trace()", x.trace(), 0);
        due("farmer(0, 0)", x.farmer(0, 0), BAD);
        due("strip(0, 0)", x.strip(0, 0), BAD);
        due("undo()", x.undo(), STATE);
        due("back(0)", x.back(0), STATE);
        due("night(8, 0)", x.night(8, 0), 4);
        due("night(8, 1)", x.night(8, 1), 0);
    }

    private static void typing() {
        promise = 2;
        MoonRights x = new MoonRights();
        due("type(0)", x.type(0), 1);
        due("type(255)", x.type(255), 2);
        due("type(256)", x.type(256), BAD);
        due("type(-1)", x.type(-1), BAD);
        for (int i = 3; i <= 200; i++) {
            due("type(32)", x.type(32), i);
        }
        due("type(32) in a full text", x.type(32), FULL);
        due("type(256) in a full text", x.type(256), BAD);
        due("count(5)", x.count(5), 200);
    }

    private static void clearing() {
        promise = 3;
        MoonRights x = new MoonRights();
        due("clear() of nothing", x.clear(), 0);
        tell(x, "f1");
        due("clear()", x.clear(), 2);
        due("clear() again", x.clear(), 0);
        due("type behind clear()", x.type('f'), 1);
    }

    private static void reading() {
        promise = 4;
        due("parish() of blanks", parish("   ", 0).count(5), 0);
        MoonRights x = parish(" f 0   1;f99 4 ;s1 60;s 0 1;c0;c99;c 0 ;m15;e60; ", 9);
        due("count(0)", x.count(0), 2);
        due("count(1)", x.count(1), 2);
        due("count(2)", x.count(2), 15);
        due("count(3)", x.count(3), 60);
        due("count(5)", x.count(5), 0);
        due("night(0, 1)", x.night(0, 1), 1);
        due("night(99, 1)", x.night(99, 1), 1);
        due("night(1, 1)", x.night(1, 1), 0);
        due("strip(0, 0)", x.strip(0, 0), 1);
        parish("m0;e1;", 2);
        parish("c0;c0;c0;", 3);
        parish("f1 1;s0 1;f1 1;s1 1;", 4);
        parish(" ".repeat(200), 0);
        parish(" ".repeat(197) + "c1;", 1);
        fault(" ".repeat(198) + "c1", 200);
        fault("c" + " ".repeat(198) + "1", 200);
        readingFaults();
        readingAnew();
    }

    private static void readingFaults() {
        fault("f1 1;f1 1;f1 1;f1 1;f1 1; f1 1;", 26);
        fault("f1 1;s0 1;s0 1;s0 1;s0 1;s0 1;s0 1;s0 1;s0 1;", 40);
        fault("m1; m1;", 4);
        fault("e1;e2;", 3);
        fault("s0 1;f1 1;", 1);
        fault("f1 1;s 1 1;", 7);
        fault("f1 1;s0 0;", 8);
        fault("f1 1;s0 61;", 8);
        fault("f100 1;", 1);
        fault("f 01 1;", 2);
        fault("f00 1;", 1);
        fault("f99999999999999999999 1;", 1);
        fault("f4294967297 1;", 1);
        fault("f1 0;", 3);
        fault("f1 5;", 3);
        fault("c100;", 1);
        fault("m16;", 1);
        fault("e0;", 1);
        fault("e61;", 1);
        fault(";", 0);
        fault("f1 1;;", 5);
        fault("  7;", 2);
        fault("x", 0);
        fault("F1 1;", 0);
        fault("f1 1x;", 4);
        fault("f1-1;", 2);
        fault("f1\t1;", 2);
        fault("f1 1 1;", 5);
        fault("f1;", 2);
        fault("ff1 1;", 1);
        fault("f", 1);
        fault("f1 1", 4);
        fault("f1 1  ", 6);
        fault("c1;c", 4);
        fault("c1 2;x", 3);
        fault("c1;\u00e9", 3);
        fault("c1;\0", 3);
    }

    private static void readingAnew() {
        MoonRights x = parish("f9 1;f8 2;s0 4;c3;m4;e9;", 6);
        x.marries(0, 1);
        x.ploughs(0, 0);
        x.passes();
        x.dies(1);
        x.keep(0);
        x.cuts(0, 0, 16);
        x.rate(0, 0);
        tell(x, "f5 1;f6 1;s1 7;");
        due("parish() anew", x.parish(), 3);
        due("night anew", x.now(0), 0);
        due("living anew", x.now(2), 3);
        due("quarters anew", x.now(3), 11);
        due("undo anew", x.undo(), STATE);
        due("image anew", x.back(0), STATE);
        due("cuts anew", x.count(4), 0);
        due("phase anew", x.count(2), 0);
        due("Easter anew", x.count(3), 30);
        due("cloud anew", x.night(3, 1), 0);
        due("mate anew", x.farmer(0, 3), NONE);
        due("ploughed anew", x.farmer(0, 4), 0);
        due("left anew", x.strip(0, 1), 7);
        due("trace is no part of the text", x.trace(), 1);
        due("parish() of nothing", x.parish(), 0);
        due("nobody", x.count(0), 0);
        due("no strips", x.count(1), 0);
        readingThrice();
    }

    /** Nothing of any earlier text, a faulty one too, comes through into a later one. */
    private static void readingThrice() {
        MoonRights x = parish("f9 2;s0 9;m4;e9;c0;c5;c99;", 7);
        due("a cloud", x.ploughs(0, 0), 9);
        due("least", x.least(0, 0, -1), 5);
        tell(x, "f9 1;s0 9;m8;");
        due("parish() the second time", x.parish(), 3);
        due("least anew", x.least(0, 0, -1), 9);
        due("the nights anew", x.least(0, 0, 0), 0);
        due("not ploughed yet", x.farmer(0, 4), 0);
        tell(x, "f9 1;m2;e4;c7;x");
        due("parish() of a fault", x.parish(), -24);
        x.clear();
        tell(x, "f9 1;s0 9;");
        due("parish() the third time", x.parish(), 2);
        due("phase", x.count(2), 0);
        due("Easter", x.count(3), 30);
        for (int n = 0; n < 100; n++) {
            due("cloud in " + n, x.night(n, 1), 0);
        }
        tell(x, "m1;e2;");
        due("phase and Easter may be told again in another text", x.parish(), 2);
    }

    private static void farmers() {
        promise = 5;
        MoonRights x = parish("f12 3;f0 1;f9 4;s0 9;m4;", 5);
        int[] fresh = {12, 3, 1, NONE, 0};
        for (int what = 0; what < 5; what++) {
            due("farmer(0, " + what + ")", x.farmer(0, what), fresh[what]);
        }
        x.marries(2, 0);
        x.ploughs(0, 0);
        int[] later = {10, 3, 1, 2, 1};
        for (int what = 0; what < 5; what++) {
            due("farmer(0, " + what + ") later", x.farmer(0, what), later[what]);
        }
        x.dies(0);
        int[] dead = {0, 3, 0, NONE, 1};
        for (int what = 0; what < 5; what++) {
            due("farmer(0, " + what + ") dead", x.farmer(0, what), dead[what]);
        }
        due("farmer(3, 0)", x.farmer(3, 0), BAD);
        due("farmer(-1, 0)", x.farmer(-1, 0), BAD);
        due("farmer(0, 5)", x.farmer(0, 5), BAD);
        due("farmer(0, -1)", x.farmer(0, -1), BAD);
    }

    private static void strips() {
        promise = 6;
        MoonRights x = parish("f9 1;f9 2;s1 9;s0 1;m8;", 5);
        x.ploughs(1, 0);
        due("strip(0, 0)", x.strip(0, 0), 1);
        due("strip(0, 1)", x.strip(0, 1), 1);
        due("strip(0, 2)", x.strip(0, 2), 9);
        x.dies(1);
        due("strip(0, 0) inherited", x.strip(0, 0), 0);
        due("strip(2, 0)", x.strip(2, 0), BAD);
        due("strip(-1, 0)", x.strip(-1, 0), BAD);
        due("strip(0, 3)", x.strip(0, 3), BAD);
        due("strip(0, -1)", x.strip(0, -1), BAD);
    }

    private static void nights() {
        promise = 7;
        MoonRights x = parish("m3;c7;", 2);
        int[] moons = {0, 0, 1, 1, 2, 2, 3, 3, 4, 3, 3, 2, 2, 1, 1, 0};
        for (int n = 0; n < 100; n++) {
            due("night(" + n + ", 0)", x.night(n, 0), moons[(n + 3) % 16]);
            due("night(" + n + ", 1)", x.night(n, 1), n == 7 ? 1 : 0);
        }
        due("night(100, 0)", x.night(100, 0), BAD);
        due("night(-1, 1)", x.night(-1, 1), BAD);
        due("night(0, 2)", x.night(0, 2), BAD);
        due("night(0, -1)", x.night(0, -1), BAD);
    }

    private static void nows() {
        promise = 8;
        MoonRights x = parish("f9 1;f8 2;f7 3;s0 4;s1 8;s2 60;m8;e33;c16;", 9);
        due("full nights", x.now(4), 2);
        x.ploughs(0, 0);
        x.ploughs(1, 1);
        due("now(1)", x.now(1), 3);
        due("now(3)", x.now(3), 16);
        due("now(5)", x.now(5), 2);
        x.dies(1);
        due("now(2)", x.now(2), 5);
        due("now(3) inherited", x.now(3), 16);
        x.passes();
        due("full nights behind one", x.now(4), 1);
        due("now(0)", x.now(0), 1);
        pass(x, 31);
        due("full night just ahead of Easter", x.now(4), 1);
        due("now(5) at most", x.now(5), 10);
        pass(x, 1);
        due("full nights at Easter", x.now(4), 0);
        pass(x, 20);
        due("full nights behind Easter", x.now(4), 0);
        due("now(6)", x.now(6), BAD);
        due("now(-1)", x.now(-1), BAD);
        due("Easter is no night", parish("m8;e16;", 2).now(4), 1);
    }

    private static void ploughing() {
        promise = 9;
        MoonRights x = parish("f9 2;f1 4;f3 1;s0 9;s0 3;s1 5;s2 2;m4;c1;", 9);
        due("ploughs(0, 0)", x.ploughs(0, 0), 5);
        due("quarters used up", x.farmer(0, 0), 7);
        due("twice in a night", x.ploughs(0, 1), STATE);
        due("not his strip", x.ploughs(2, 0), STATE);
        due("too few quarters", x.ploughs(1, 2), STATE);
        due("refused: not ploughed", x.farmer(1, 4), 0);
        due("refused: not undone", x.now(5), 1);
        x.marries(0, 2);
        due("his mate's strip", x.ploughs(2, 1), 1);
        x.passes();
        due("by a cloud", x.ploughs(0, 0), 5);
        due("a cloud uses the moon up", x.farmer(0, 0), 5);
        due("too few left", x.ploughs(2, 3), STATE);
        x.passes();
        due("0 at least", x.ploughs(0, 1), 0);
        x.passes();
        due("done", x.ploughs(0, 1), STATE);
        x.lends(0, 2, 2);
        due("all of his quarters", x.ploughs(2, 3), 0);
        x.dies(0);
        due("the dead", x.ploughs(0, 0), STATE);
        due("ploughs(3, 0)", x.ploughs(3, 0), BAD);
        due("ploughs(-1, 0)", x.ploughs(-1, 0), BAD);
        due("ploughs(0, 4)", x.ploughs(0, 4), BAD);
        due("ploughs(0, -1)", x.ploughs(0, -1), BAD);
        MoonRights done = parish("f9 4;s0 8;m4;", 3);
        due("done at once", done.ploughs(0, 0), 0);
        done.passes();
        due("done already", done.ploughs(0, 0), STATE);
        MoonRights dark = parish("f9 2;s0 9;", 2);
        due("no moon", dark.ploughs(0, 0), STATE);
        pass(dark, 34);
        due("behind Easter", dark.ploughs(0, 0), 7);
    }

    private static void passing() {
        promise = 10;
        MoonRights x = parish("f9 1;s0 9;m4;", 3);
        x.ploughs(0, 0);
        for (int n = 1; n <= 99; n++) {
            due("passes()", x.passes(), n);
            due("ploughed no more", x.farmer(0, 4), 0);
        }
        due("passes() in the last night", x.passes(), STATE);
        due("now(0)", x.now(0), 99);
        due("undo()", x.undo(), 9);
        due("now(0)", x.now(0), 98);
    }

    private static void lending() {
        promise = 11;
        MoonRights x = parish("f99 1;f99 1;f0 1;", 3);
        due("lends(0, 1, 99)", x.lends(0, 1, 99), 198);
        due("lender", x.farmer(0, 0), 0);
        due("nothing left", x.lends(0, 1, 1), STATE);
        due("alike", x.lends(1, 1, 1), BAD);
        due("none", x.lends(1, 0, 0), BAD);
        due("too much", x.lends(1, 0, 100), BAD);
        due("nobody lends", x.lends(3, 0, 1), BAD);
        due("to nobody", x.lends(0, -1, 1), BAD);
        due("lends(1, 2, 1)", x.lends(1, 2, 1), 1);
        due("BAD ahead of STATE", x.lends(0, 1, 100), BAD);
        x.dies(2);
        due("to the dead", x.lends(1, 2, 1), STATE);
        due("of the dead", x.lends(2, 1, 1), STATE);
        due("refused", x.now(5), 3);
        // 495 quarters are the most that a text tells: no more can ever be lent to one.
        MoonRights rich = parish("f99 1;f99 1;f99 1;f99 1;f99 1;", 5);
        for (int k = 1; k < 5; k++) {
            due("lends(" + k + ", 0, 99)", rich.lends(k, 0, 99), 99 * (k + 1));
        }
        due("together", rich.now(3), 495);
    }

    private static void marrying() {
        promise = 12;
        MoonRights x = parish("f7 1;f8 1;f9 1;f1 1;", 4);
        due("marries(2, 0)", x.marries(2, 0), 16);
        due("of 2", x.farmer(2, 3), 0);
        due("of 0", x.farmer(0, 3), 2);
        due("again", x.marries(0, 2), STATE);
        due("the first is married", x.marries(0, 1), STATE);
        due("the second is married", x.marries(1, 2), STATE);
        due("alike", x.marries(1, 1), BAD);
        due("alike and married", x.marries(0, 0), BAD);
        due("nobody", x.marries(1, 4), BAD);
        due("nobody", x.marries(-1, 1), BAD);
        x.dies(3);
        due("the dead", x.marries(1, 3), STATE);
        due("the dead", x.marries(3, 1), STATE);
        x.dies(2);
        due("a widower", x.marries(0, 1), 7 + 9 + 8 + 1);
    }

    private static void dying() {
        promise = 13;
        MoonRights x = parish("f7 1;f8 1;f9 1;f5 1;s2 4;s3 5;s2 6;", 7);
        x.marries(2, 3);
        due("the mate is heir", x.dies(2), 3);
        due("the half, cut, to the lowest", x.farmer(0, 0), 11);
        due("the rest to the heir", x.farmer(3, 0), 10);
        due("nothing left", x.farmer(2, 0), 0);
        due("strip 0", x.strip(0, 0), 3);
        due("strip 1", x.strip(1, 0), 3);
        due("strip 2", x.strip(2, 0), 3);
        due("the widower is free", x.farmer(3, 3), NONE);
        due("the dead is free", x.farmer(2, 3), NONE);
        due("the dead again", x.dies(2), STATE);
        due("the lowest is heir", x.dies(3), 0);
        due("all to one", x.farmer(0, 0), 21);
        due("the lowest dies", x.dies(0), 1);
        due("all to the last", x.farmer(1, 0), 29);
        due("the last one", x.dies(1), STATE);
        due("nobody", x.dies(4), BAD);
        due("nobody", x.dies(-1), BAD);
        due("undone", x.undo(), 3);
        due("alive again", x.farmer(0, 2), 1);
        due("his strips again", x.strip(1, 0), 0);
    }

    private static void undoing() {
        promise = 14;
        MoonRights x = parish("f9 1;f8 2;s0 9;m4;", 4);
        x.ploughs(0, 0);
        x.passes();
        x.lends(0, 1, 3);
        x.marries(0, 1);
        x.dies(0);
        due("dies() undone", x.undo(), 4);
        due("married again", x.farmer(1, 3), 0);
        due("quarters again", x.farmer(0, 0), 4);
        due("strips again", x.strip(0, 0), 0);
        due("marries() undone", x.undo(), 3);
        due("free again", x.farmer(0, 3), NONE);
        due("lends() undone", x.undo(), 2);
        due("quarters again", x.farmer(1, 0), 8);
        due("passes() undone", x.undo(), 1);
        due("ploughed again", x.farmer(0, 4), 1);
        due("ploughs() undone", x.undo(), 0);
        due("furrows again", x.strip(0, 1), 9);
        due("not ploughed", x.farmer(0, 4), 0);
        due("none", x.undo(), STATE);
        pass(x, 25);
        x.dies(5);
        x.lends(0, 0, 1);
        for (int i = 9; i >= 0; i--) {
            due("undo()", x.undo(), i);
        }
        due("older ones are lost", x.undo(), STATE);
        due("now(0)", x.now(0), 15);
        pass(x, 2);
        due("known", x.now(5), 2);
        due("undo()", x.undo(), 1);
        due("now(0)", x.now(0), 16);
    }

    private static void leasts() {
        promise = 15;
        // Moons from night 0 on: 3 3 4 3 3 2 2 1 1.
        MoonRights x = parish("f0 1;f0 2;f0 4;s0 7;s0 22;s0 23;s0 5;m6;e9;", 9);
        int[] seven = {7, 2, 0, 2, -5};
        for (int k = -1; k < 4; k++) {
            int at = k == -1 ? 0 : k == -2 ? 1 : k + 2;
            if (at < seven.length) {
                due("least(0, 0, " + k + ")", x.least(0, 0, k), seven[at]);
            }
        }
        due("least(0, 0, -2)", x.least(0, 0, -2), 2);
        due("least(0, 0, MAX)", x.least(0, 0, Integer.MAX_VALUE), -5);
        due("all nights", x.least(0, 1, -1), 22);
        due("all nights", x.least(0, 1, -2), 9);
        due("all nights", x.least(0, 1, 8), 8);
        due("not so many", x.least(0, 1, 9), -5);
        due("too much", x.least(0, 2, -1), NONE);
        due("too much", x.least(0, 2, -2), NONE);
        due("too much", x.least(0, 2, 0), NONE);
        due("two oxen", x.least(1, 2, -1), 12);
        due("fewest nights, then the first", x.least(1, 2, -2), 4);
        due("two oxen", x.least(1, 2, 0), 0);
        due("two oxen", x.least(1, 2, 1), 1);
        due("two oxen", x.least(1, 2, 2), 2);
        due("two oxen", x.least(1, 2, 3), 5);
        due("four oxen", x.least(2, 3, -1), 2);
        due("four oxen", x.least(2, 3, 0), 5);
        leastEdges(x);
    }

    private static void leastEdges(MoonRights x) {
        due("least(3, 0, 0)", x.least(3, 0, 0), BAD);
        due("least(-1, 0, 0)", x.least(-1, 0, 0), BAD);
        due("least(0, 4, 0)", x.least(0, 4, 0), BAD);
        due("least(0, -1, 0)", x.least(0, -1, 0), BAD);
        due("least(0, 0, -3)", x.least(0, 0, -3), BAD);
        due("least(0, 2, -3)", x.least(0, 2, -3), BAD);
        pass(x, 8);
        due("the last night", x.least(2, 3, -1), NONE);
        x.passes();
        due("Easter", x.least(2, 0, -1), NONE);
        MoonRights sparse = parish("f9 1;s0 2;s0 5;m8;e9;c1;c2;c3;c4;c5;c6;c7;", 12);
        due("the moon is not split", sparse.least(0, 0, -1), 4);
        due("and one night", sparse.least(0, 0, -2), 1);
        due("clouds are left out", sparse.least(0, 1, -1), NONE);
        sparse.ploughs(0, 0);
        due("done: no quarters", sparse.least(0, 0, -1), 0);
        due("done: no nights", sparse.least(0, 0, -2), 0);
        due("done: not so many", sparse.least(0, 0, 0), -5);
        pass(sparse, 50);
        due("done behind Easter", sparse.least(0, 0, -1), 0);
        MoonRights most = parish("f0 1;s0 60;m8;e60;", 4);
        due("the most", most.least(0, 0, -1), 60);
        MoonRights beyond = parish("f0 1;s0 58;e60;c0;c1;c2;c3;c4;c5;m8;", 10);
        due("many clouds", beyond.least(0, 0, -1), 58);
    }

    private static void soonests() {
        promise = 16;
        // Moons from night 0 on: 2 2 3 3 4 3 ..
        MoonRights x = parish("f7 1;f3 3;f99 1;s0 7;s0 2;s1 60;m4;c2;", 8);
        due("alone, a cloud uses up", x.soonest(0, -1, 0), NONE);
        due("by two", x.soonest(0, 1, 0), 0);
        due("by two", x.soonest(1, 0, 0), 0);
        due("in THE NIGHT", x.soonest(0, -1, 1), 0);
        due("waits for a lower moon", x.soonest(1, -1, 0), 9);
        due("the longest", x.soonest(2, -1, 2), 34);
        x.ploughs(0, 1);
        due("done", x.soonest(1, -1, 1), 0);
        due("ploughed already does not matter", x.soonest(0, 2, 0), 1);
        pass(x, 3);
        due("done: THE NIGHT", x.soonest(0, -1, 1), 3);
        due("alike", x.soonest(0, 0, 0), BAD);
        due("a second one below -1", x.soonest(0, -2, 0), BAD);
        due("no second one", x.soonest(0, 3, 0), BAD);
        due("no first one", x.soonest(-1, 0, 0), BAD);
        due("no first one", x.soonest(-1, -1, 0), BAD);
        due("no first one", x.soonest(3, -1, 0), BAD);
        due("no strip", x.soonest(0, -1, 3), BAD);
        due("no strip", x.soonest(0, -1, -1), BAD);
        // Moons from night 0 on: 4 3 3 2 2 1 1 0 0 0 1 ..
        MoonRights two = parish("f0 1;f4 1;f7 1;s0 5;s0 4;s0 1;m8;", 7);
        due("all of the second one's quarters", two.soonest(0, 1, 1), 0);
        due("the second one's are used up", two.soonest(0, 1, 0), NONE);
        due("both are used up", two.soonest(1, 2, 0), 0);
        two.lends(2, 1, 2);
        due("the second one waits", two.soonest(0, 1, 0), 3);
        pass(two, 6);
        due("one furrow", two.soonest(1, -1, 2), 6);
        two.passes();
        due("one furrow by no moon", two.soonest(1, -1, 2), 10);
        pass(x, 96);
        due("the last night: the moon is 3", x.night(99, 0), 3);
        due("in the last night", x.soonest(1, 2, 0), 99);
        due("behind the last night", x.soonest(2, -1, 0), NONE);
    }

    private static void needs() {
        promise = 17;
        MoonRights x = parish("f0 1;f0 2;f0 1;s0 7;s1 9;s0 5;s1 1;m6;e9;", 9);
        due("need(0)", x.need(0), 12);
        due("need(1)", x.need(1), 6);
        due("no strips", x.need(2), 0);
        due("need(3)", x.need(3), BAD);
        due("need(-1)", x.need(-1), BAD);
        x.dies(0);
        due("the heir's", x.need(1), 6 + 4 + 3);
        due("the dead one's", x.need(0), 0);
        pass(x, 9);
        due("none", x.need(1), NONE);
        MoonRights one = parish("f9 1;s0 1;s0 60;m6;e9;", 5);
        due("all seven strips", parish("f0 1;s0 1;s0 1;s0 1;s0 1;s0 1;s0 1;s0 1;m8;", 9).need(0), 7);
        due("one of them has none", one.need(0), NONE);
        one.ploughs(0, 0);
        due("still", one.need(0), NONE);
    }

    private static void lacking() {
        promise = 18;
        MoonRights x = parish("f5 1;f12 1;f13 1;f0 1;s0 12;s1 12;s2 12;s3 60;m6;e9;", 10);
        due("lacks(0)", x.lacks(0), 7);
        due("just enough", x.lacks(1), 0);
        due("more than enough", x.lacks(2), 0);
        due("no need", x.lacks(3), NONE);
        due("lacks(4)", x.lacks(4), BAD);
        due("lacks(-1)", x.lacks(-1), BAD);
    }

    private static void matching() {
        promise = 19;
        MoonRights x = parish("f2 1;f9 1;f5 1;f6 1;f0 1;s0 7;s2 8;s4 60;m6;e9;", 10);
        due("of several the lowest", x.match(0), 1);
        due("covered", x.match(1), 5);
        x.lends(1, 3, 5);
        due("the other one", x.match(0), 3);
        due("covered", x.match(1), 5);
        x.lends(0, 3, 2);
        due("covered", x.match(1), 7);
        x.marries(3, 1);
        due("married", x.match(0), NONE);
        due("married", x.match(1), NONE);
        due("match(2)", x.match(2), BAD);
        due("match(-1)", x.match(-1), BAD);
        x.undo();
        x.dies(3);
        due("the dead do not match, their heirs do", x.match(0), 20);
        MoonRights ties = parish("f9 1;f0 1;f9 1;f0 1;s1 4;s3 4;m6;e9;", 8);
        due("lowest who lacks, lowest other one", ties.match(0), 10);
        due("covered", ties.match(1), 4);
        MoonRights even = parish("f4 1;f0 1;s0 4;s1 4;m6;e9;", 6);
        due("who has just enough has nothing over", even.match(0), NONE);
        MoonRights one = parish("f3 1;f1 1;s0 4;m6;e9;", 5);
        due("one quarter", one.match(0), 1);
        due("one quarter", one.match(1), 1);
        due("nobody", new MoonRights().match(0), NONE);
    }

    private static void cutting() {
        promise = 20;
        MoonRights x = parish("f9 1;f9 4;", 2);
        due("cuts(2, 0, 0)", x.cuts(2, 0, 0), BAD);
        due("cuts(-1, 0, 0)", x.cuts(-1, 0, 0), BAD);
        due("cuts(0, 100, 0)", x.cuts(0, 100, 0), BAD);
        due("cuts(0, -1, 0)", x.cuts(0, -1, 0), BAD);
        due("cuts(0, 0, 17)", x.cuts(0, 0, 17), BAD);
        due("cuts(0, 0, -1)", x.cuts(0, 0, -1), BAD);
        for (int i = 1; i <= 6; i++) {
            due("cuts(1, 99, 16)", x.cuts(1, 99, 16), i);
        }
        due("full", x.cuts(1, 99, 16), FULL);
        due("BAD ahead of FULL", x.cuts(1, 99, 17), BAD);
        due("count(4)", x.count(4), 6);
    }

    private static void forgetting() {
        promise = 21;
        MoonRights x = parish("f9 1;", 1);
        due("forget() of nothing", x.forget(), 0);
        x.cuts(0, 0, 16);
        x.cuts(0, 1, 16);
        due("lit()", x.lit(), 1);
        due("forget()", x.forget(), 2);
        due("lit()", x.lit(), 0);
        due("cuts() anew", x.cuts(0, 0, 0), 1);
    }

    private static void lighting() {
        promise = 22;
        MoonRights x = parish("f9 1;f9 4;f9 2;m4;c1;", 5);
        x.cuts(1, 0, 9);
        due("the first one", x.lit(), 2);
        x.forget();
        x.cuts(1, 0, 8);
        x.cuts(2, 1, 0);
        x.cuts(0, 12, 0);
        due("as much as the moon gives", x.lit(), 0);
        x.cuts(2, 1, 1);
        due("by a cloud", x.lit(), 4);
        x.cuts(0, 12, 1);
        due("by no moon", x.lit(), 5);
        x.cuts(1, 0, 9);
        due("one more", x.lit(), 7);
    }

    private static void means() {
        promise = 23;
        // Moons till Easter: 3 3 (cloud) 3 3 2 2 1 1: 18 together.
        MoonRights x = parish("f9 1;f9 3;m6;e9;c2;", 5);
        int[][] want = {{0, 1}, {9, 5}, {18, 5}, {27, 5}, {36, 5}, {9, 1}, {54, 5}, {63, 5}, {72, 5}, {81, 5}, {18, 1}};
        for (int m = 0; m <= 10; m++) {
            due("mean(0, " + m + ", 0)", x.mean(0, m, 0), want[m][0]);
            due("mean(0, " + m + ", 1)", x.mean(0, m, 1), want[m][1]);
        }
        due("three oxen", x.mean(1, 1, 0), 27);
        due("three oxen", x.mean(1, 1, 1), 5);
        x.passes();
        due("a night later", x.mean(0, 1, 0), 3);
        due("a night later", x.mean(0, 1, 1), 2);
        pass(x, 7);
        due("the last night", x.mean(0, 3, 0), 3);
        due("the last night", x.mean(0, 3, 1), 10);
        pass(x, 30);
        due("behind Easter", x.mean(0, 3, 0), 0);
        due("behind Easter", x.mean(0, 3, 1), 1);
        due("Easter is no night", parish("f9 1;m6;e2;", 3).mean(0, 10, 0), 6);
        due("mean(2, 0, 0)", x.mean(2, 0, 0), BAD);
        due("mean(-1, 0, 0)", x.mean(-1, 0, 0), BAD);
        due("mean(0, 11, 0)", x.mean(0, 11, 0), BAD);
        due("mean(0, -1, 0)", x.mean(0, -1, 0), BAD);
        due("mean(0, 0, 2)", x.mean(0, 0, 2), BAD);
        due("mean(0, 0, -1)", x.mean(0, 0, -1), BAD);
    }

    private static void rates() {
        promise = 24;
        MoonRights x = parish("f9 3;f9 1;s1 1;s1 1;s0 20;m3;", 6);
        pass(x, 2);
        int[] want = {20, 22, 17, 44, 19, 22};
        for (int kind = 0; kind < 6; kind++) {
            due("rate(" + kind + ", 2)", x.rate(kind, 2), want[kind]);
        }
        due("rate(6, 0)", x.rate(6, 0), NO);
        due("rate(-1, 0)", x.rate(-1, 0), NO);
        due("rate(0, 3)", x.rate(0, 3), NO);
        due("rate(0, -1)", x.rate(0, -1), NO);
        x.ploughs(0, 2);
        due("what is left", x.rate(0, 2), 14);
        x.dies(0);
        due("oxen of the owner now", x.rate(2, 2), 13);
        MoonRights below = parish("f9 4;s0 1;m8;", 3);
        below.ploughs(0, 0);
        due("below 0", below.rate(2, 0), -4);
    }

    private static void keeping() {
        promise = 25;
        MoonRights x = parish("f9 1;", 1);
        due("keep(0)", x.keep(0), 0);
        x.passes();
        due("keep(1)", x.keep(1), 1);
        due("keep(2)", x.keep(2), BAD);
        due("keep(-1)", x.keep(-1), BAD);
        due("nothing is undone by it", x.now(5), 1);
        due("back(0)", x.back(0), 0);
        due("back(1)", x.back(1), 1);
        x.passes();
        due("keep(0) anew", x.keep(0), 2);
        x.passes();
        due("back(0) anew", x.back(0), 2);
    }

    private static void bringingBack() {
        promise = 26;
        MoonRights x = parish("f9 1;f8 1;s0 9;m4;", 4);
        due("back(0)", x.back(0), STATE);
        due("back(2)", x.back(2), BAD);
        due("back(-1)", x.back(-1), BAD);
        x.ploughs(0, 0);
        x.marries(0, 1);
        x.keep(0);
        x.cuts(0, 0, 3);
        x.passes();
        x.dies(0);
        due("back(1)", x.back(1), STATE);
        due("refused: still known", x.now(5), 4);
        due("back(0)", x.back(0), 0);
        due("alive", x.now(2), 3);
        due("quarters", x.farmer(0, 0), 7);
        due("married", x.farmer(1, 3), 0);
        due("owner", x.strip(0, 0), 0);
        due("left", x.strip(0, 1), 7);
        due("ploughed", x.farmer(0, 4), 1);
        due("cuts are no part of it", x.count(4), 1);
        due("nothing to undo", x.undo(), STATE);
        x.passes();
        due("undo()", x.undo(), 0);
        x.passes();
        due("back(0) again", x.back(0), 0);
    }

    private static void counting() {
        promise = 27;
        MoonRights x = parish("f9 1;f8 1;s0 9;m4;e7;", 5);
        x.cuts(0, 0, 0);
        tell(x, "f1 ");
        int[] want = {2, 1, 4, 7, 1, 3};
        for (int what = 0; what < 6; what++) {
            due("count(" + what + ")", x.count(what), want[what]);
        }
        due("count(6)", x.count(6), BAD);
        due("count(-1)", x.count(-1), BAD);
        x.dies(0);
        due("the dead count", x.count(0), 2);
    }

    private static void tracing() {
        promise = 28;
        MoonRights x = parish("f9 1;s0 9;", 2);
        long[] steps = {1, 11, 101, 1011, 10101, 100001};
        long sum = 0;
        for (int kind = 0; kind < 6; kind++) {
            x.rate(kind, 0);
            sum += steps[kind];
            due("trace() behind rate(" + kind + ", 0)", x.trace(), sum);
        }
        x.rate(6, 0);
        x.rate(3, 1);
        x.keep(0);
        x.passes();
        x.undo();
        x.back(0);
        due("trace() behind what is no rate", x.trace(), sum);
    }

    /** No wild number in any place is anything but refused, and none changes anything. */
    private static void wildNumbers() {
        promise = 0;
        MoonRights x = parish("f9 1;f9 1;s0 9;m4;", 4);
        for (int w : WILD) {
            LongSupplier[] bad = {
                () -> x.type(w), () -> x.farmer(w, 0), () -> x.farmer(0, w), () -> x.strip(w, 0),
                () -> x.strip(0, w), () -> x.night(w, 0), () -> x.night(0, w), () -> x.now(w),
                () -> x.ploughs(w, 0), () -> x.ploughs(0, w), () -> x.lends(w, 1, 1), () -> x.lends(0, w, 1),
                () -> x.lends(0, 1, w), () -> x.marries(w, 1), () -> x.marries(0, w), () -> x.dies(w),
                () -> x.least(w, 0, 0), () -> x.least(0, w, 0), () -> x.soonest(w, 1, 0), () -> x.soonest(0, w, 0),
                () -> x.soonest(0, 1, w), () -> x.need(w), () -> x.lacks(w), () -> x.match(w),
                () -> x.cuts(w, 0, 0), () -> x.cuts(0, w, 0), () -> x.cuts(0, 0, w), () -> x.mean(w, 0, 0),
                () -> x.mean(0, w, 0), () -> x.mean(0, 0, w), () -> x.keep(w), () -> x.back(w), () -> x.count(w),
            };
            for (int i = 0; i < bad.length; i++) {
                due("wild call " + i + " by " + w, bad[i].getAsLong(), BAD);
            }
            due("rate(" + w + ", 0)", x.rate(w, 0), NO);
            due("rate(0, " + w + ")", x.rate(0, w), NO);
            due("least(0, 0, " + w + ")", x.least(0, 0, w), w < 0 ? BAD : -5);
        }
        due("nothing was done", x.now(5), 0);
        due("nothing was traced", x.trace(), 0);
    }

    public static void main(String[] args) {
        newObject();
        typing();
        clearing();
        reading();
        farmers();
        strips();
        nights();
        nows();
        ploughing();
        passing();
        lending();
        marrying();
        dying();
        undoing();
        leasts();
        soonests();
        needs();
        lacking();
        matching();
        cutting();
        forgetting();
        lighting();
        means();
        rates();
        keeping();
        bringingBack();
        counting();
        tracing();
        wildNumbers();
        System.out.println(wrong == 0 ? "all promises hold" : wrong + " answers are not as due");
        System.exit(wrong == 0 ? 0 : 1);
    }
}
