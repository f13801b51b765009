/** One method a promise: ordinary inputs, the edges that the document names, wrong inputs. */
public final class PromisesTest {
    private static final int UNKNOWN = -1, OUTSIDE = -2, STATE = -3, FULL = -4, NONE = -9;
    private static final int NULL = -11, CAST = -12, INDEX = -13, SIZE = -14;
    private static final long LOST = Long.MIN_VALUE;
    private static final int LEAST = Integer.MIN_VALUE, GREATEST = Integer.MAX_VALUE;

    private static int wrong = 0;
    private static String promise = "";

    private static void due(String what, long got, long want) {
        if (got != want) {
            wrong++;
            System.out.println(promise + ": " + what + " answered " + got + ", due is " + want);
        }
    }

    private static NeckShip begin(String name) {
        promise = name;
        return new NeckShip();
    }

    /** Spar 0 covers 10 .. 20, spar 1 15 .. 30, spar 2 20 .. 25; threads 0, 1, 2 raise them. */
    private static NeckShip threeSpars(String name) {
        NeckShip x = begin(name);
        x.spar(0, 10, 10, 2, 1);
        x.spar(1, 30, 15, 3, -1);
        x.spar(2, 20, 5, 4, 1);
        x.thread(5, 0, 10);
        x.thread(40, 1, 15);
        x.thread(19, 2, 5);
        return x;
    }

    /** Fills a new row of a sheet. */
    private static void write(NeckShip x, int k, int lane, int... row) {
        due("sheet", x.sheet(k, lane, row.length), 1);
        for (int i = 0; i < row.length; i++) {
            due("put " + i, x.put(k, i, row[i]), 1);
        }
    }

    public static void main(String[] args) {
        newObject();
        rule();
        ruleState();
        spar();
        plan();
        planFaults();
        about();
        over();
        stack();
        fits();
        thread();
        cut();
        threaded();
        cross();
        raise();
        lay();
        settle();
        order();
        rising();
        rig();
        sheet();
        lose();
        put();
        cell();
        copy();
        tell();
        name();
        as();
        trace();
        fault();
        told();
        System.out.println(wrong == 0 ? "the promises hold" : wrong + " answers are wrong");
        if (wrong != 0) {
            System.exit(1);
        }
    }

    private static void newObject() {
        NeckShip x = begin("1 a new object");
        for (int what = 0; what < 6; what++) {
            due("told", x.told(what), 0);
        }
        for (int k = 0; k < 4; k++) {
            due("lose", x.lose(k), 0);
        }
        due("trace", x.trace(), 0);
        due("fault", x.fault(), 0);
        due("about", x.about(0, 0), UNKNOWN);
        due("threaded", x.threaded(0, 0), UNKNOWN);
        NeckShip y = new NeckShip();
        x.spar(0, 1, 1, 1, 1);
        due("another object's spars", y.told(0), 0);
        due("another object's length", y.rule(0, 50), 50);
    }

    private static void rule() {
        NeckShip x = begin("2 rule");
        int[] first = {50, 10, 5, 20, 20};
        int[] most = {100, 60, 60, 60, 60};
        for (int what = 0; what < 5; what++) {
            due("below", x.rule(what, 0), OUTSIDE);
            due("beyond", x.rule(what, most[what] + 1), OUTSIDE);
            due("least int", x.rule(what, LEAST), OUTSIDE);
            due("greatest int", x.rule(what, GREATEST), OUTSIDE);
            due("first", x.rule(what, most[what]), first[what]);
            due("most", x.rule(what, 1), most[what]);
            due("least", x.rule(what, 7), 1);
        }
        due("what", x.rule(-1, 0), UNKNOWN);
        due("what", x.rule(5, 1), UNKNOWN);
        due("what", x.rule(LEAST, 1), UNKNOWN);
        due("what", x.rule(GREATEST, 1), UNKNOWN);
    }

    private static void ruleState() {
        NeckShip x = begin("2 rule, STATE");
        x.spar(0, 30, 5, 1, 1);
        due("below a foot", x.rule(0, 29), STATE);
        due("OUTSIDE is told ahead of STATE", x.rule(0, 0), OUTSIDE);
        due("at a foot", x.rule(0, 30), 50);
        due("hole at its end", x.thread(50, 0, 1), 0);
        due("hole beyond its end", x.thread(51, 0, 1), OUTSIDE);
        due("longer", x.rule(0, 40), 30);
        due("hole at its new end", x.thread(60, 0, 1), 1);
        due("20 below a hole and one more", x.rule(0, 39), STATE);
        due("20 below a hole", x.rule(0, 40), 40);
        x.cut(1);
        due("a cut thread has its hole still", x.rule(0, 39), STATE);
        due("others are free", x.rule(1, 1), 10);
        due("unchanged", x.rule(0, 100), 40);
        NeckShip y = begin("2 rule, the first hole");
        y.spar(0, 0, 5, 1, 1);
        y.thread(70, 0, 1);
        due("below the hole", y.rule(0, 49), STATE);
        due("at it", y.rule(0, 50), 50);
        NeckShip z = begin("2 rule, no spars");
        due("as short as can be", z.rule(0, 1), 50);
        due("a foot at its end", z.spar(0, 1, 1, 1, 1), 0);
    }

    private static void spar() {
        NeckShip x = begin("3 spar");
        due("kind below", x.spar(-1, 0, 1, 1, 1), OUTSIDE);
        due("kind beyond", x.spar(3, 0, 1, 1, 1), OUTSIDE);
        due("foot below", x.spar(0, -1, 1, 1, 1), OUTSIDE);
        due("foot beyond", x.spar(0, 51, 1, 1, 1), OUTSIDE);
        due("length below", x.spar(0, 0, 0, 1, 1), OUTSIDE);
        due("length beyond", x.spar(0, 0, 61, 1, 1), OUTSIDE);
        due("thick below", x.spar(0, 0, 1, 0, 1), OUTSIDE);
        due("thick beyond", x.spar(0, 0, 1, 10, 1), OUTSIDE);
        due("way 0", x.spar(0, 0, 1, 1, 0), OUTSIDE);
        due("way 2", x.spar(0, 0, 1, 1, 2), OUTSIDE);
        due("way -2", x.spar(0, 0, 1, 1, -2), OUTSIDE);
        due("wild", x.spar(LEAST, GREATEST, LEAST, GREATEST, LEAST), OUTSIDE);
        due("none came", x.told(0), 0);
        due("least", x.spar(0, 0, 1, 1, 1), 0);
        due("greatest", x.spar(2, 50, 60, 9, -1), 1);
        x.rule(0, 100);
        due("a longer hull", x.spar(1, 100, 60, 9, 1), 2);
        for (int s = 3; s < 10; s++) {
            due("number", x.spar(0, s, 1, 1, 1), s);
        }
        due("full", x.spar(0, 0, 1, 1, 1), FULL);
        due("OUTSIDE is told ahead of FULL", x.spar(0, 0, 1, 1, 0), OUTSIDE);
        due("ten", x.told(0), 10);
        due("lies", x.about(9, 5), 0);
    }

    private static void plan() {
        NeckShip x = begin("4 plan");
        write(x, 1, 2, 99, 1, 20, 10, 2, 1, 2, 30, 11, 3, -1, 0, 51, 1, 1, 1);
        due("none", x.plan(1, 2, 0, 0), 0);
        due("none at the end", x.plan(1, 2, 16, 0), 0);
        due("two", x.plan(1, 2, 1, 2), 2);
        due("kind", x.about(0, 0), 1);
        due("foot", x.about(0, 1), 20);
        due("length", x.about(0, 2), 10);
        due("thick", x.about(0, 3), 2);
        due("way", x.about(0, 4), 1);
        due("second's kind", x.about(1, 0), 2);
        due("second's way", x.about(1, 4), -1);
        due("over", x.over(0, 1), 1);
        due("the third is not as told", x.plan(1, 2, 1, 3), OUTSIDE);
        due("none came", x.told(0), 2);
        int[] outside = {3, 51, 61, 10, 0};
        int[] asTold = {1, 20, 10, 2, 1};
        for (int c = 0; c < 5; c++) {
            x.put(1, 1 + c, outside[c]);
            due("number " + c + " of five is not as told", x.plan(1, 2, 1, 1), OUTSIDE);
            x.put(1, 1 + c, asTold[c]);
        }
        x.rule(0, 51);
        due("now it is", x.plan(1, 2, 1, 3), 5);
        due("more", x.plan(1, 2, 1, 3), 8);
        due("full at the third", x.plan(1, 2, 1, 3), FULL);
        due("none came", x.told(0), 8);
        x.put(1, 11, 7);
        due("OUTSIDE of the third one ahead of FULL", x.plan(1, 2, 1, 3), OUTSIDE);
        due("two more", x.plan(1, 2, 1, 2), 10);
        due("the first is FULL ahead of the third", x.plan(1, 2, 1, 3), FULL);
        due("refused: no fault", x.fault(), 0);
        due("none of a full ship", x.plan(1, 2, 1, 0), 10);
    }

    private static void planFaults() {
        NeckShip x = begin("4 plan, FAULTS");
        due("sheet", x.plan(-1, 9, 0, 1), UNKNOWN);
        due("sheet", x.plan(4, 0, 0, 1), UNKNOWN);
        due("lane ahead of NULL", x.plan(0, 3, 0, 1), OUTSIDE);
        due("lane", x.plan(0, -1, 0, 1), OUTSIDE);
        due("nothing is no CAST", x.plan(0, 1, 0, -1), NULL);
        due("fault", x.fault(), 1);
        due("a refusal sets it to 0", x.plan(4, 0, 0, 1), UNKNOWN);
        due("fault", x.fault(), 0);
        write(x, 0, 1, 0, 20, 10, 2, 1, 0, 20, 10, 2, 1);
        due("CAST ahead of SIZE", x.plan(0, 2, 0, -1), CAST);
        due("fault", x.fault(), 2);
        due("SIZE ahead of INDEX", x.plan(0, 1, -1, -1), SIZE);
        due("fault", x.fault(), 4);
        due("least n", x.plan(0, 1, 0, LEAST), SIZE);
        due("below", x.plan(0, 1, -1, 1), INDEX);
        due("fault", x.fault(), 3);
        due("below, none", x.plan(0, 1, -1, 0), INDEX);
        due("beyond, none", x.plan(0, 1, 11, 0), INDEX);
        due("one cell too few", x.plan(0, 1, 1, 2), INDEX);
        due("n that wraps", x.plan(0, 1, 0, 858993460), INDEX);
        due("greatest", x.plan(0, 1, GREATEST, GREATEST), INDEX);
        due("none came", x.told(0), 0);
        due("all cells", x.plan(0, 1, 0, 2), 2);
        due("fault", x.fault(), 0);
    }

    private static void about() {
        NeckShip x = threeSpars("5 about");
        int[][] want = {
            {0, 10, 10, 2, 1, 0, 0, 0, 1, 1},
            {1, 30, 15, 3, -1, 0, 0, 0, 1, 1},
            {2, 20, 5, 4, 1, 0, 0, 1, 1, 0},
        };
        for (int s = 0; s < 3; s++) {
            for (int what = 0; what < 10; what++) {
                due("about(" + s + ", " + what + ")", x.about(s, what), want[s][what]);
            }
        }
        due("what below", x.about(0, -1), OUTSIDE);
        due("what beyond", x.about(0, 10), OUTSIDE);
        due("spar below", x.about(-1, 10), UNKNOWN);
        due("spar beyond", x.about(3, 0), UNKNOWN);
        due("wild", x.about(GREATEST, LEAST), UNKNOWN);
        x.raise(2);
        due("up", x.about(2, 5), 1);
        due("held", x.about(2, 6), 1);
        due("may not rise again", x.about(2, 7), 0);
        due("a foot stands within 15 .. 30", x.about(1, 7), 0);
        due("none that lies is over it", x.about(1, 9), 0);
        x.thread(10, 2, 1);
        due("two raise it", x.about(2, 8), 2);
        x.thread(20, 2, 1);
        x.thread(21, 2, 1);
        due("straight below or ahead raises not", x.about(2, 8), 2);
        x.cut(2);
        x.cut(3);
        due("not held", x.about(2, 6), 0);
        due("none raises it", x.about(2, 8), 0);
        x.settle();
        due("no thread", x.about(2, 7), 0);
    }

    private static void over() {
        NeckShip x = threeSpars("6 over");
        int[][] want = {{0, 1, 0}, {0, 0, 1}, {0, 0, 0}};
        for (int a = 0; a < 3; a++) {
            for (int b = 0; b < 3; b++) {
                due("over(" + a + ", " + b + ")", x.over(a, b), want[a][b]);
            }
        }
        due("a below", x.over(-1, 0), UNKNOWN);
        due("a beyond", x.over(3, 0), UNKNOWN);
        due("b below", x.over(0, -1), UNKNOWN);
        due("b beyond", x.over(0, 3), UNKNOWN);
        due("one place alone: 20", x.over(0, 2), 0);
        x.raise(2);
        due("as if both lay", x.over(1, 2), 1);
        x.spar(0, 11, 1, 1, 1);
        due("within", x.over(0, 3), 1);
        x.spar(0, 0, 60, 1, 1);
        due("around", x.over(3, 4), 1);
        x.spar(0, 10, 10, 1, -1);
        due("back to back", x.over(0, 5), 0);
    }

    private static void stack() {
        NeckShip x = threeSpars("7 stack");
        int[][] want = {{-100, 5}, {9, 5}, {10, 7}, {14, 7}, {15, 10}, {19, 10}, {20, 12}, {24, 12}, {25, 8},
            {29, 8}, {30, 5}, {200, 5}};
        for (int[] pair : want) {
            due("stack(" + pair[0] + ")", x.stack(pair[0]), pair[1]);
        }
        due("below", x.stack(-101), OUTSIDE);
        due("beyond", x.stack(201), OUTSIDE);
        due("least", x.stack(LEAST), OUTSIDE);
        due("greatest", x.stack(GREATEST), OUTSIDE);
        x.raise(2);
        due("one is up", x.stack(20), 8);
        x.rule(2, 50);
        due("a deeper hull", x.stack(20), 53);
        x.spar(0, 0, 60, 9, -1);
        due("ahead of the hull", x.stack(-60), 59);
        due("ahead of it all", x.stack(-61), 50);
        due("up to its foot", x.stack(-1), 59);
        due("not behind its foot", x.stack(0), 50);
    }

    private static void fits() {
        NeckShip x = threeSpars("8 fits");
        due("greatest", x.fits(1), 12);
        due("fits", x.fits(0), 1);
        x.rule(4, 12);
        due("just as high", x.fits(0), 1);
        x.rule(4, 11);
        due("too low", x.fits(0), 0);
        x.raise(2);
        due("one is up", x.fits(1), 10);
        due("now it fits", x.fits(0), 1);
        x.rule(3, 10);
        due("just as wide", x.fits(0), 1);
        due("one slice", x.fits(2), 1);
        x.rule(3, 9);
        due("too narrow", x.fits(0), 0);
        due("two slices", x.fits(2), 2);
        x.rule(3, 5);
        due("two even slices", x.fits(2), 2);
        x.rule(3, 1);
        x.rule(1, 60);
        due("sixty slices", x.fits(2), 60);
        due("below", x.fits(-1), OUTSIDE);
        due("beyond", x.fits(3), OUTSIDE);
        NeckShip y = begin("8 fits, none lies");
        y.spar(0, 0, 60, 9, -1);
        due("far ahead", y.fits(1), 14);
        y.thread(1, 0, 1);
        y.raise(0);
        due("none lies", y.fits(1), 5);
        y.rule(4, 5);
        due("fits", y.fits(0), 1);
        y.rule(2, 6);
        due("the hull alone is too deep", y.fits(0), 0);
    }

    private static void thread() {
        NeckShip x = begin("9 thread");
        due("no spar", x.thread(0, 0, 1), UNKNOWN);
        x.spar(0, 10, 7, 1, 1);
        due("spar below", x.thread(0, -1, 1), UNKNOWN);
        due("UNKNOWN ahead of OUTSIDE", x.thread(-21, 1, 0), UNKNOWN);
        due("hole below", x.thread(-21, 0, 1), OUTSIDE);
        due("hole beyond", x.thread(71, 0, 1), OUTSIDE);
        due("place below", x.thread(0, 0, 0), OUTSIDE);
        due("place beyond", x.thread(0, 0, 8), OUTSIDE);
        due("wild", x.thread(LEAST, 0, GREATEST), OUTSIDE);
        due("none came", x.told(1), 0);
        due("least", x.thread(-20, 0, 1), 0);
        due("greatest", x.thread(70, 0, 7), 1);
        for (int t = 2; t < 16; t++) {
            due("number", x.thread(t, 0, 1), t);
        }
        due("full", x.thread(0, 0, 1), FULL);
        due("OUTSIDE ahead of FULL", x.thread(0, 0, 8), OUTSIDE);
        due("UNKNOWN ahead of FULL", x.thread(0, 1, 1), UNKNOWN);
        x.cut(0);
        due("16 ever", x.thread(0, 0, 1), FULL);
    }

    private static void cut() {
        NeckShip x = threeSpars("10 cut");
        due("below", x.cut(-1), UNKNOWN);
        due("beyond", x.cut(3), UNKNOWN);
        due("cut", x.cut(1), 1);
        due("it was", x.cut(1), 0);
        due("is cut", x.threaded(1, 3), 0);
        due("others are whole", x.threaded(0, 3), 1);
        due("others are whole", x.threaded(2, 3), 1);
        x.raise(2);
        x.cut(2);
        due("it falls not by itself", x.about(2, 5), 1);
    }

    private static void threaded() {
        NeckShip x = threeSpars("11 threaded");
        x.thread(40, 0, 3);
        int[][] want = {{5, 0, 10, 1, 1, 0}, {40, 1, 15, 1, 1, 0}, {19, 2, 5, 1, 1, 1}, {40, 0, 3, 1, 0, 1}};
        for (int t = 0; t < 4; t++) {
            for (int what = 0; what < 6; what++) {
                due("threaded(" + t + ", " + what + ")", x.threaded(t, what), want[t][what]);
            }
        }
        due("below", x.threaded(-1, 9), UNKNOWN);
        due("beyond", x.threaded(4, 0), UNKNOWN);
        due("what below", x.threaded(0, -1), OUTSIDE);
        due("what beyond", x.threaded(0, 6), OUTSIDE);
        x.cut(3);
        due("a cut one crosses not", x.threaded(2, 5), 0);
        due("whole ones cross a cut one", x.threaded(3, 5), 1);
        x.cut(0);
        due("a cut one raises not", x.threaded(0, 4), 0);
        x.thread(10, 0, 3);
        due("right below the mast raises not", x.threaded(4, 4), 0);
    }

    private static void cross() {
        NeckShip x = begin("12 cross");
        x.spar(0, 10, 60, 1, 1);
        x.spar(0, 20, 60, 1, 1);
        x.spar(0, 10, 60, 1, -1);
        x.thread(0, 0, 10);
        x.thread(0, 1, 20);
        x.thread(20, 0, 10);
        x.thread(-5, 1, 25);
        x.thread(10, 2, 20);
        x.thread(10, 0, 30);
        x.thread(5, 1, 5);
        x.thread(5, 0, 5);
        x.thread(15, 1, 3);
        int[] crossing = new int[9];
        note(crossing, 0, 1); // in one line from one hole, to two spars
        note(crossing, 4, 5); // both straight up from one foot
        note(crossing, 1, 4); // at (10, 10), where 0 and 2 have their ends and so cross neither
        note(crossing, 1, 5);
        note(crossing, 2, 6);
        note(crossing, 2, 8);
        note(crossing, 3, 4);
        note(crossing, 3, 5);
        note(crossing, 4, 6); // 7 ends on 4
        note(crossing, 5, 6);
        for (int t = 0; t < 9; t++) {
            for (int u = 0; u < 9; u++) {
                due("cross(" + t + ", " + u + ")", x.cross(t, u), crossing[t] >> u & 1);
            }
        }
        x.cut(0);
        due("cut ones cross too", x.cross(0, 1), 1);
        due("t below", x.cross(-1, 0), UNKNOWN);
        due("t beyond", x.cross(9, 0), UNKNOWN);
        due("u below", x.cross(0, -1), UNKNOWN);
        due("u beyond", x.cross(0, 9), UNKNOWN);
        crossAtEnds();
    }

    /** An end of the one lies inside the other, from either side, whichever came first. */
    private static void crossAtEnds() {
        int[][] threads = {{10, 0, 20}, {0, 1, 10}, {20, 1, 10}};
        for (int other = 1; other < 3; other++) {
            NeckShip x = begin("12 cross, at an end");
            x.spar(0, 10, 60, 1, 1);
            x.spar(0, 10, 60, 1, 1);
            int[] o = threads[other];
            x.thread(10, 0, 20);
            x.thread(o[0], o[1], o[2]);
            x.thread(10, 0, 20);
            due("ends on the earlier one", x.cross(0, 1), 0);
            due("ends on the later one", x.cross(1, 2), 0);
            due("as the other way", x.cross(1, 0) + x.cross(2, 1), 0);
            due("the same line twice", x.cross(0, 2), 1);
        }
        NeckShip y = begin("12 cross, just");
        y.spar(0, 1, 2, 1, 1);
        y.spar(0, 0, 2, 1, 1);
        y.thread(0, 0, 1);
        y.thread(1, 1, 1);
        y.thread(0, 0, 1);
        due("in the middle", y.cross(0, 1), 1);
        due("in the middle", y.cross(1, 2), 1);
    }

    private static void note(int[] crossing, int t, int u) {
        crossing[t] |= 1 << u;
        crossing[u] |= 1 << t;
    }

    private static void raise() {
        NeckShip x = threeSpars("13 raise");
        due("below", x.raise(-1), UNKNOWN);
        due("beyond", x.raise(3), UNKNOWN);
        due("one lies over it", x.raise(1), STATE);
        due("one lies over it", x.raise(0), STATE);
        due("the uppermost", x.raise(2), 1);
        due("it is up", x.raise(2), STATE);
        due("a foot stands within what it covers", x.raise(1), STATE);
        due("nothing changed", x.told(2), 1);
        NeckShip y = begin("13 raise, the ends");
        y.spar(0, 10, 10, 1, 1);
        y.spar(0, 20, 5, 1, 1);
        y.thread(9, 0, 1);
        y.thread(20, 1, 1);
        due("no thread raises it", y.raise(1), STATE);
        y.thread(19, 1, 1);
        due("raised", y.raise(1), 1);
        due("a foot at the end is not within", y.raise(0), 2);
        y.cut(0);
        due("cut", y.lay(0), 1);
        due("the thread was cut", y.raise(0), STATE);
        NeckShip z = begin("13 raise, one foot");
        for (int s = 0; s < 4; s++) {
            z.spar(0, 10, 5, 1, s < 2 ? 1 : -1);
            z.thread(s < 2 ? 9 : 11, s, 1);
        }
        due("one lies over it", z.raise(0), STATE);
        due("up", z.raise(1), 1);
        due("a foot at its own foot is not within", z.raise(0), 2);
        due("nor is it the other way", z.raise(3), 3);
        due("nor so", z.raise(2), 4);
    }

    private static void lay() {
        NeckShip x = begin("14 lay");
        x.spar(0, 10, 10, 1, 1);
        x.spar(0, 12, 10, 1, 1);
        x.spar(0, 30, 1, 1, 1);
        x.thread(9, 0, 1);
        x.thread(11, 1, 1);
        due("below", x.lay(-1), UNKNOWN);
        due("beyond", x.lay(3), UNKNOWN);
        due("it lies", x.lay(0), STATE);
        due("up", x.raise(1), 1);
        due("laid", x.lay(1), 3);
        x.raise(1);
        due("the other is under way", x.raise(0), STATE);
        NeckShip y = begin("14 lay, what bars it");
        y.spar(0, 10, 10, 1, 1);
        y.thread(9, 0, 1);
        due("up", y.raise(0), 1);
        y.spar(0, 25, 10, 1, -1);
        due("a spar that lies over it", y.lay(0), STATE);
        y.thread(26, 1, 1);
        y.raise(1);
        due("it is up: laid", y.lay(0), 1);
        NeckShip z = begin("14 lay, a foot within");
        z.spar(0, 10, 10, 1, 1);
        z.thread(9, 0, 1);
        z.raise(0);
        z.spar(0, 12, 1, 1, 1);
        z.thread(11, 1, 1);
        z.raise(1);
        due("a foot stands within", z.lay(0), STATE);
        due("still up", z.told(2), 2);
        due("the other is laid, held or not", z.lay(1), 1);
        due("it lies over it now", z.lay(0), STATE);
    }

    private static void settle() {
        NeckShip x = begin("15 settle");
        x.spar(0, 10, 10, 1, 1);
        x.spar(0, 25, 10, 1, -1);
        x.spar(0, 40, 10, 1, 1);
        x.thread(9, 0, 1);
        x.thread(26, 1, 1);
        x.thread(39, 2, 1);
        x.raise(1);
        x.raise(0);
        x.raise(2);
        due("all held", x.settle(), 0);
        x.cut(0);
        x.cut(1);
        due("two fall at once", x.settle(), 2);
        due("lies", x.about(0, 5), 0);
        due("lies", x.about(1, 5), 0);
        due("stands", x.about(2, 5), 1);
        due("none is left", x.settle(), 0);
        NeckShip y = begin("15 settle, over one that stands");
        y.spar(0, 10, 10, 1, 1);
        y.spar(0, 25, 10, 1, -1);
        y.thread(9, 0, 1);
        y.thread(26, 1, 1);
        y.raise(1);
        y.raise(0);
        y.cut(1);
        due("one falls", y.settle(), 1);
        due("one lies over it that stands", y.about(0, 9), 1);
        due("it may not be laid", y.lay(0), STATE);
    }

    private static void order() {
        NeckShip x = begin("16 order");
        due("none lies", x.order(0), UNKNOWN);
        x.spar(0, 20, 2, 1, 1);
        x.spar(0, 18, 10, 1, -1);
        x.spar(0, 17, 10, 1, 1);
        x.spar(0, 40, 2, 1, 1);
        x.thread(19, 0, 1);
        x.thread(19, 1, 1);
        x.thread(16, 2, 1);
        x.thread(39, 3, 1);
        due("2 lies over 1, and up its foot bars 1", x.order(0), NONE);
        NeckShip y = begin("16 order, the least is not always right");
        y.spar(0, 10, 5, 1, 1);
        y.spar(0, 0, 9, 1, 1);
        y.spar(0, 30, 20, 1, -1);
        y.thread(9, 0, 1);
        y.thread(-1, 1, 1);
        y.thread(31, 2, 1);
        int[] want = {1, 2, 0};
        for (int i = 0; i < 3; i++) {
            due("order(" + i + ")", y.order(i), want[i]);
        }
        due("below", y.order(-1), UNKNOWN);
        due("beyond", y.order(3), UNKNOWN);
        y.raise(1);
        due("what is left", y.order(0), 2);
        due("what is left", y.order(1), 0);
        due("as many as lie", y.order(2), UNKNOWN);
        y.cut(0);
        due("not all can rise", y.order(0), NONE);
        due("UNKNOWN ahead of NONE", y.order(2), UNKNOWN);
        NeckShip z = begin("16 order, feet within");
        z.spar(0, 12, 2, 1, -1);
        z.spar(0, 20, 10, 1, 1);
        z.spar(0, 15, 10, 1, 1);
        z.spar(0, 0, 60, 1, 1);
        due("no threads", z.order(0), NONE);
        z.thread(13, 0, 1);
        z.thread(19, 1, 1);
        z.thread(14, 2, 1);
        z.thread(-1, 3, 1);
        int[] downward = {3, 0, 2, 1};
        for (int i = 0; i < 4; i++) {
            due("order(" + i + ")", z.order(i), downward[i]);
        }
        z.spar(0, 40, 1, 1, 1);
        z.thread(39, 4, 1);
        for (int i = 0; i < 5; i++) {
            due("4 has to rise ahead of 3, and bars it then", z.order(i), NONE);
        }
        due("beyond", z.order(5), UNKNOWN);
    }

    private static void rising() {
        NeckShip x = begin("17 rising");
        due("no spars: one set", x.rising(0), 1);
        due("none up", x.rising(1), 0);
        due("no bits", x.rising(2), 0);
        due("below", x.rising(-1), OUTSIDE);
        due("beyond", x.rising(3), OUTSIDE);
        for (int s = 0; s < 10; s++) {
            x.spar(0, 5 * s, 5, 1, 1);
            x.thread(5 * s - 1, s, 1);
        }
        due("all sets", x.rising(0), 1024);
        due("all up", x.rising(1), 10);
        due("all bits", x.rising(2), 1023);
        x.cut(3);
        due("half of them", x.rising(0), 512);
        due("one less", x.rising(1), 9);
        due("one bit less", x.rising(2), 1023 - 8);
        x.raise(5);
        due("one is up", x.rising(0), 256);
        due("what is up is counted", x.rising(1), 9);
        due("what is up is told", x.rising(2), 1023 - 8);
        due("nothing rose", x.told(2), 1);
        NeckShip y = threeSpars("17 rising, one bars another");
        due("sets: none, 2", y.rising(0), 2);
        due("most", y.rising(1), 1);
        due("bits", y.rising(2), 4);
        y.cut(2);
        due("it alone", y.rising(0), 1);
        due("none", y.rising(2), 0);
    }

    private static void rig() {
        NeckShip x = begin("18 rig");
        due("no spars", x.rig(), STATE);
        x.spar(0, 10, 20, 1, 1);
        due("no threads", x.rig(), NONE);
        x.thread(11, 0, 1);
        due("it raises not", x.rig(), NONE);
        x.thread(0, 0, 20);
        x.thread(5, 0, 10);
        due("the lesser", x.rig(), 2);
        x.spar(0, 20, 20, 1, 1);
        due("one has none", x.rig(), NONE);
        x.thread(-10, 1, 20);
        due("1 and 3 cross, 2 and 3 do not", x.rig(), 4 + 8);
        x.thread(15, 1, 1);
        due("1 and 4 cross not either, but are more", x.rig(), 4 + 8);
        x.cut(3);
        due("without 3", x.rig(), 2 + 16);
        x.cut(1);
        due("without 1", x.rig(), 4 + 16);
        x.cut(2);
        due("cut ones raise not", x.rig(), NONE);
        NeckShip y = begin("18 rig, not the first thread of each");
        y.spar(0, 30, 30, 1, -1);
        y.spar(0, 40, 30, 1, 1);
        y.thread(45, 0, 10);
        y.thread(25, 1, 10);
        due("they cross", y.rig(), NONE);
        y.thread(31, 0, 1);
        due("another one", y.rig(), 2 + 4);
        y.thread(39, 1, 1);
        due("less than 0 and 3", y.rig(), 2 + 4);
        y.cut(2);
        due("without 2", y.rig(), 1 + 8);
        y.raise(1);
        due("up or not", y.rig(), 1 + 8);
    }

    private static void sheet() {
        NeckShip x = begin("19 sheet");
        due("below", x.sheet(-1, 9, -1), UNKNOWN);
        due("beyond", x.sheet(4, 0, 0), UNKNOWN);
        due("lane below", x.sheet(0, -1, 0), OUTSIDE);
        due("OUTSIDE ahead of SIZE", x.sheet(0, 3, -1), OUTSIDE);
        due("n beyond", x.sheet(0, 0, 51), OUTSIDE);
        due("greatest", x.sheet(0, 0, GREATEST), OUTSIDE);
        due("n below", x.sheet(0, 0, -1), SIZE);
        due("fault", x.fault(), 4);
        due("least", x.sheet(0, 0, LEAST), SIZE);
        due("it has nothing still", x.lose(0), 0);
        due("none", x.sheet(0, 0, 0), 1);
        due("fault", x.fault(), 0);
        due("it has a row", x.put(0, 0, 1), INDEX);
        due("most", x.sheet(3, 2, 50), 1);
        due("its last cell", x.put(3, 49, 7), 1);
        due("not more", x.put(3, 50, 7), INDEX);
        due("SIZE changes nothing", x.sheet(3, 2, -1), SIZE);
        due("still there", x.cell(3, 49, 2), 7);
        due("anew", x.sheet(3, 2, 50), 1);
        due("0 at first", x.cell(3, 49, 2), 0);
        due("another lane", x.sheet(3, 0, 3), 1);
        due("is bytes now", x.cell(3, 2, 0), 0);
        due("is shorter now", x.cell(3, 3, 0), LOST);
        due("is no ints", x.cell(3, 2, 2), LOST);
    }

    private static void lose() {
        NeckShip x = begin("20 lose");
        due("below", x.lose(-1), UNKNOWN);
        due("beyond", x.lose(4), UNKNOWN);
        due("it had nothing", x.lose(0), 0);
        x.sheet(0, 0, 0);
        due("an empty row is no nothing", x.lose(0), 1);
        due("it had nothing", x.lose(0), 0);
        x.sheet(0, 2, 1);
        x.lose(0);
        due("nothing", x.put(0, 0, 1), NULL);
        due("nothing of any lane", x.cell(0, 0, 1), LOST);
        due("NULL", x.fault(), 1);
        x.lose(0);
        x.lose(9);
        due("it names no fault", x.fault(), 1);
    }

    private static void put() {
        NeckShip x = begin("21 put");
        due("below", x.put(-1, 0, 0), UNKNOWN);
        due("beyond", x.put(4, 0, 0), UNKNOWN);
        due("NULL ahead of INDEX", x.put(0, -1, 0), NULL);
        due("fault", x.fault(), 1);
        int[] values = {127, 128, -129, 255, 32767, 32768, -32769, 65536, LEAST, GREATEST};
        for (int lane = 0; lane < 3; lane++) {
            x.sheet(lane, lane, 10);
            for (int i = 0; i < 10; i++) {
                due("put", x.put(lane, i, values[i]), 1);
                long want = lane == 0 ? (byte) values[i] : lane == 1 ? (short) values[i] : values[i];
                due("cut to lane " + lane, x.cell(lane, i, lane), want);
            }
            due("index below", x.put(lane, -1, 0), INDEX);
            due("index beyond", x.put(lane, 10, 0), INDEX);
            due("fault", x.fault(), 3);
            due("greatest", x.put(lane, GREATEST, 0), INDEX);
            due("least", x.put(lane, LEAST, 0), INDEX);
        }
        due("put", x.put(2, 0, 5), 1);
        due("no fault", x.fault(), 0);
    }

    private static void cell() {
        NeckShip x = begin("22 cell");
        due("NULL", x.cell(0, -1, 0), LOST);
        due("fault", x.fault(), 1);
        due("sheet below", x.cell(-1, 0, 0), LOST);
        due("refused", x.fault(), 0);
        x.cell(0, 0, 0);
        due("sheet beyond", x.cell(4, 0, 0), LOST);
        due("refused", x.fault(), 0);
        x.cell(0, 0, 0);
        due("lane ahead of NULL", x.cell(0, 0, 3), LOST);
        due("refused", x.fault(), 0);
        write(x, 0, 1, 4, -5);
        due("first", x.cell(0, 0, 1), 4);
        due("last", x.cell(0, 1, 1), -5);
        due("no fault", x.fault(), 0);
        due("CAST ahead of INDEX", x.cell(0, 2, 0), LOST);
        due("fault", x.fault(), 2);
        due("beyond", x.cell(0, 2, 1), LOST);
        due("fault", x.fault(), 3);
        x.cell(0, 0, 1);
        due("below", x.cell(0, -1, 1), LOST);
        due("fault", x.fault(), 3);
        due("greatest", x.cell(0, GREATEST, 1), LOST);
        due("lane below", x.cell(0, 0, -1), LOST);
        due("refused", x.fault(), 0);
    }

    private static void copy() {
        NeckShip x = begin("23 copy");
        due("first below", x.copy(-1, 0, 0, 0, 0), UNKNOWN);
        due("first beyond", x.copy(4, 0, 0, 0, 0), UNKNOWN);
        due("other below", x.copy(0, 0, -1, 0, 0), UNKNOWN);
        due("UNKNOWN ahead of NULL", x.copy(0, 0, 4, 0, 0), UNKNOWN);
        due("both nothing", x.copy(0, 0, 1, 0, 0), NULL);
        write(x, 0, 2, 1, 2, 3, 4, 5);
        due("the other nothing", x.copy(0, -1, 1, 0, 0), NULL);
        due("the first nothing", x.copy(1, 0, 0, 0, 0), NULL);
        due("fault", x.fault(), 1);
        x.sheet(1, 1, 3);
        due("CAST ahead of INDEX", x.copy(0, -1, 1, 0, 0), CAST);
        due("fault", x.fault(), 2);
        x.sheet(1, 2, 3);
        due("i below", x.copy(0, -1, 1, 0, 0), INDEX);
        due("j below", x.copy(0, 0, 1, -1, 0), INDEX);
        due("n below", x.copy(0, 0, 1, 0, -1), INDEX);
        due("fault", x.fault(), 3);
        due("beyond the first", x.copy(1, 0, 0, 0, 4), INDEX);
        due("beyond the first", x.copy(0, 3, 1, 0, 3), INDEX);
        due("beyond the other", x.copy(0, 0, 1, 1, 3), INDEX);
        due("wild", x.copy(0, GREATEST, 1, GREATEST, GREATEST), INDEX);
        due("wild", x.copy(0, 1, 1, 1, GREATEST), INDEX);
        due("wild", x.copy(0, LEAST, 1, LEAST, LEAST), INDEX);
        due("nothing was copied", x.cell(1, 0, 2) + x.cell(1, 1, 2) + x.cell(1, 2, 2), 0);
        due("none at the ends", x.copy(0, 5, 1, 3, 0), 0);
        due("no fault", x.fault(), 0);
        due("copied", x.copy(0, 2, 1, 1, 2), 2);
        checkRow(x, 1, 0, 3, 4);
        checkRow(x, 0, 1, 2, 3, 4, 5);
        due("within itself, up", x.copy(0, 0, 0, 1, 4), 4);
        checkRow(x, 0, 1, 1, 2, 3, 4);
        due("within itself, down", x.copy(0, 2, 0, 0, 3), 3);
        checkRow(x, 0, 2, 3, 4, 3, 4);
        x.put(1, 1, 9);
        checkRow(x, 0, 2, 3, 4, 3, 4);
    }

    private static void checkRow(NeckShip x, int k, int... want) {
        for (int i = 0; i < want.length; i++) {
            due("cell " + i + " of " + k, x.cell(k, i, 2), want[i]);
        }
    }

    private static void tell() {
        NeckShip x = threeSpars("24 tell");
        due("spar", x.tell(0), 10);
        due("its body", x.trace(), 1);
        due("mast", x.tell(1), 45);
        due("its bodies", x.trace(), (31 + 2) * 31 + 1);
        x.spar(2, 7, 8, 1, -1);
        NeckShip y = begin("24 tell, bowsprits");
        y.spar(2, 7, 8, 1, -1);
        y.spar(2, 7, 8, 1, 1);
        due("way -1", y.tell(0), -8);
        due("its bodies", y.trace(), 3 * 31 + 1);
        due("way 1", y.tell(1), 8);
        due("below", y.tell(-1), UNKNOWN);
        due("beyond", y.tell(2), UNKNOWN);
        due("refused: no body", y.trace(), ((3 * 31 + 1) * 31 + 3) * 31 + 1);
    }

    private static void name() {
        NeckShip x = threeSpars("25 name");
        due("spar", x.name(0), 20);
        due("its body", x.trace(), 4);
        due("mast", x.name(1), 31);
        due("its body", x.trace(), 4 * 31 + 4);
        due("bowsprit", x.name(2), 40);
        due("its body", x.trace(), (4 * 31 + 4) * 31 + 5);
        x.spar(2, 0, 1, 9, 1);
        due("all bowsprits alike", x.name(3), 40);
        int before = x.trace();
        due("below", x.name(-1), UNKNOWN);
        due("beyond", x.name(4), UNKNOWN);
        due("refused: no body", x.trace(), before);
    }

    private static void as() {
        NeckShip x = threeSpars("26 as");
        for (int s = 0; s < 3; s++) {
            for (int kind = 0; kind < 3; kind++) {
                due("as(" + s + ", " + kind + ")", x.as(s, kind), kind <= s ? 1 : CAST);
                due("fault", x.fault(), kind <= s ? 0 : 2);
            }
        }
        x.as(0, 2);
        due("kind below", x.as(0, -1), OUTSIDE);
        due("refused", x.fault(), 0);
        due("kind beyond", x.as(0, 3), OUTSIDE);
        x.as(0, 2);
        due("below", x.as(-1, 3), UNKNOWN);
        due("refused", x.fault(), 0);
        due("beyond", x.as(3, 0), UNKNOWN);
        due("no body", x.trace(), 0);
    }

    private static void trace() {
        NeckShip x = threeSpars("27 trace");
        int want = 0;
        for (int n = 0; n < 40; n++) {
            x.tell(2);
            want = 31 * (31 * want + 3) + 1;
            x.name(2);
            want = 31 * want + 5;
            due("trace, which wraps", x.trace(), want);
        }
    }

    private static void fault() {
        NeckShip x = begin("28 fault");
        x.put(0, 0, 0);
        due("NULL", x.fault(), 1);
        due("NULL still", x.fault(), 1);
        x.spar(0, 0, 1, 1, 1);
        x.spar(9, 0, 1, 1, 1);
        x.rule(9, 0);
        x.about(9, 0);
        x.thread(0, 9, 0);
        x.tell(0);
        x.name(0);
        x.lose(0);
        x.lose(9);
        x.order(0);
        x.rising(0);
        x.rig();
        x.told(9);
        x.trace();
        due("calls that name none leave it", x.fault(), 1);
        x.put(9, 0, 0);
        due("put refused", x.fault(), 0);
        x.copy(0, 0, 1, 0, 0);
        due("copy, NULL", x.fault(), 1);
        x.sheet(0, 0, 1);
        due("sheet, none", x.fault(), 0);
        x.sheet(0, 0, -1);
        due("sheet, SIZE", x.fault(), 4);
        x.sheet(9, 0, -1);
        due("sheet refused", x.fault(), 0);
        x.sheet(0, 0, -1);
        x.copy(9, 0, 0, 0, 0);
        due("copy refused", x.fault(), 0);
        x.sheet(0, 0, -1);
        x.copy(0, 0, 0, 0, 1);
        due("copy, none", x.fault(), 0);
        x.sheet(0, 0, -1);
        x.plan(0, 9, 0, 0);
        due("plan refused", x.fault(), 0);
        x.sheet(0, 0, -1);
        x.plan(0, 0, 0, 0);
        due("plan, none", x.fault(), 0);
        x.sheet(0, 0, -1);
        x.put(0, 0, 1);
        due("put, none", x.fault(), 0);
        x.sheet(0, 0, -1);
        x.cell(0, 0, 0);
        due("cell, none", x.fault(), 0);
        x.sheet(0, 0, -1);
        x.as(0, 0);
        due("as, none", x.fault(), 0);
    }

    private static void told() {
        NeckShip x = threeSpars("29 told");
        x.thread(40, 0, 3);
        x.raise(2);
        x.thread(40, 0, 3);
        int[] want = {3, 5, 1, 1, 5, 3};
        for (int what = 0; what < 6; what++) {
            due("told(" + what + ")", x.told(what), want[what]);
        }
        due("below", x.told(-1), OUTSIDE);
        due("beyond", x.told(6), OUTSIDE);
        x.cut(3);
        due("whole", x.told(4), 4);
        due("pairs", x.told(5), 1);
        x.cut(2);
        due("threads ever", x.told(1), 5);
        due("up", x.told(2), 1);
        due("held", x.told(3), 0);
        due("pairs", x.told(5), 0);
        NeckShip y = begin("29 told, a full ship");
        for (int s = 0; s < 10; s++) {
            y.spar(0, 10, 60, 1, 1);
        }
        for (int t = 0; t < 16; t++) {
            y.thread(0, t % 10, 60);
        }
        due("all threads in one line", y.told(5), 16 * 15 / 2);
        due("no rig", y.rig(), NONE);
        for (int s = 9; s >= 0; s--) {
            due("raise", y.raise(s), 10 - s);
        }
        due("all held", y.told(3), 10);
        y.cut(0);
        due("held by another", y.told(3), 10);
        due("pairs without the first", y.told(5), 15 * 14 / 2);
        y.cut(9);
        due("held no more", y.told(3), 9);
    }
}
