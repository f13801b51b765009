/** The boundary cases of promises 9 to 17, and of what the terms say of threads, rising and orders. */
public final class ThreadsBoundsTest extends Bounds {
    public static void main(String[] args) {
        runAll(ThreadsBoundsTest.class);
    }

    private static Making oneSpar(int foot, int length, int way) {
        return x -> due("spar", x.spar(0, foot, length, 1, way), 0);
    }

    /** Two spars and a thread that raises each: numbers 0 and 1 of both. */
    private static Making pair(int footA, int longA, int wayA, int footB, int longB, int wayB) {
        return x -> {
            due("spar a", x.spar(0, footA, longA, 1, wayA), 0);
            due("spar b", x.spar(0, footB, longB, 1, wayB), 1);
            due("thread a", x.thread(footA - wayA, 0, 1), 0);
            due("thread b", x.thread(footB - wayB, 1, 1), 1);
        };
    }

    private static Making then(Making first, Making next) {
        return x -> {
            first.on(x);
            next.on(x);
        };
    }

    /** Spar 0 covers 10 .. 20, and 16 threads go to it, as many as there can be. */
    private static void fullOfThreads(NeckShip x) {
        due("spar", x.spar(0, 10, 10, 1, 1), 0);
        for (int t = 0; t < 16; t++) {
            due("thread", x.thread(9 - t, 0, 1), t);
        }
    }

    // ---- 9 thread

    static void promise09HoleAtItsEnds() {
        Making one = oneSpar(10, 10, 1);
        refused("-21", one, x -> x.thread(-21, 0, 1), OUTSIDE);
        due("-20", made(one).thread(-20, 0, 1), 0);
        due("70", made(one).thread(70, 0, 1), 0);
        refused("71", one, x -> x.thread(71, 0, 1), OUTSIDE);
        for (int hole : new int[] {LEAST, LEAST + 1, -256, 256, GREATEST - 20, GREATEST}) {
            refused("hole " + hole, one, x -> x.thread(hole, 0, 1), OUTSIDE);
        }
    }

    static void promise09HoleFollowsLength() {
        for (int length : new int[] {1, 49, 51, 100}) {
            Making one = x -> {
                x.rule(0, length);
                x.spar(0, 1, 1, 1, 1);
            };
            due("at the end of " + length, made(one).thread(length + 20, 0, 1), 0);
            refused("beyond the end of " + length, one, x -> x.thread(length + 21, 0, 1), OUTSIDE);
            due("the least stays", made(one).thread(-20, 0, 1), 0);
            refused("below the least", one, x -> x.thread(-21, 0, 1), OUTSIDE);
        }
    }

    static void promise09PlaceAtItsEnds() {
        for (int length : new int[] {1, 7, 60}) {
            Making one = oneSpar(10, length, 1);
            refused("0", one, x -> x.thread(0, 0, 0), OUTSIDE);
            due("1", made(one).thread(0, 0, 1), 0);
            due("its length", made(one).thread(0, 0, length), 0);
            refused("one above its length", one, x -> x.thread(0, 0, length + 1), OUTSIDE);
            refused("least", one, x -> x.thread(0, 0, LEAST), OUTSIDE);
            refused("greatest", one, x -> x.thread(0, 0, GREATEST), OUTSIDE);
        }
    }

    static void promise09PlaceIsOfItsOwnSpar() {
        Making two = x -> {
            x.spar(0, 10, 5, 1, 1);
            x.spar(0, 10, 9, 1, 1);
        };
        refused("beyond the shorter", two, x -> x.thread(0, 0, 6), OUTSIDE);
        due("of the longer", made(two).thread(0, 1, 9), 0);
        refused("beyond the longer", two, x -> x.thread(0, 1, 10), OUTSIDE);
    }

    static void promise09NoSuchSparIsUnknown() {
        refused("no spars", x -> x.rule(0, 50), x -> x.thread(0, 0, 1), UNKNOWN);
        refused("-1", oneSpar(10, 10, 1), x -> x.thread(0, -1, 1), UNKNOWN);
        refused("1", oneSpar(10, 10, 1), x -> x.thread(0, 1, 1), UNKNOWN);
        refused("10 of a full ship", x -> apart(x, 10), x -> x.thread(0, 10, 1), UNKNOWN);
        for (int s : FAR) {
            refused("spar " + s, oneSpar(10, 10, 1), x -> x.thread(0, s, 1), UNKNOWN);
        }
    }

    static void promise09UnknownAheadOfOutside() {
        refused("hole", oneSpar(10, 10, 1), x -> x.thread(-21, 1, 1), UNKNOWN);
        refused("place", oneSpar(10, 10, 1), x -> x.thread(0, 1, 0), UNKNOWN);
    }

    static void promise09SixteenEver() {
        NeckShip x = made(ThreadsBoundsTest::fullOfThreads);
        due("the seventeenth", x.thread(0, 0, 1), FULL);
        due("how many", x.told(1), 16);
        x.cut(3);
        due("a cut one gives no place", x.thread(0, 0, 1), FULL);
        refused("full", ThreadsBoundsTest::fullOfThreads, m -> m.thread(0, 0, 1), FULL);
        refused("full, to another spar", m -> {
            fullOfThreads(m);
            m.spar(0, 10, 10, 1, 1);
        }, m -> m.thread(0, 1, 1), FULL);
    }

    static void promise09UnknownAndOutsideAheadOfFull() {
        refused("UNKNOWN", ThreadsBoundsTest::fullOfThreads, x -> x.thread(0, 1, 1), UNKNOWN);
        refused("OUTSIDE, hole", ThreadsBoundsTest::fullOfThreads, x -> x.thread(71, 0, 1), OUTSIDE);
        refused("OUTSIDE, place", ThreadsBoundsTest::fullOfThreads, x -> x.thread(0, 0, 11), OUTSIDE);
    }

    static void promise09WholeAtFirst() {
        NeckShip x = made(ThreadsBoundsTest::fullOfThreads);
        for (int t = 0; t < 16; t++) {
            due("whole", x.threaded(t, 3), 1);
        }
        due("how many", x.told(4), 16);
    }

    // ---- 10 cut

    static void promise10OnceAndAgain() {
        NeckShip x = made(ThreadsBoundsTest::fullOfThreads);
        for (int t = 15; t >= 0; t--) {
            due("cut", x.cut(t), 1);
            due("it was", x.cut(t), 0);
            due("is cut", x.threaded(t, 3), 0);
            due("the others are whole", x.told(4), t);
        }
    }

    static void promise10ItWasChangesNothing() {
        refused("it was", x -> {
            fullOfThreads(x);
            x.cut(7);
        }, x -> x.cut(7), 0);
    }

    static void promise10NoSuchThreadIsUnknown() {
        refused("no threads", oneSpar(10, 10, 1), x -> x.cut(0), UNKNOWN);
        refused("-1", x -> apart(x, 3), x -> x.cut(-1), UNKNOWN);
        refused("3", x -> apart(x, 3), x -> x.cut(3), UNKNOWN);
        refused("16 of all", ThreadsBoundsTest::fullOfThreads, x -> x.cut(16), UNKNOWN);
        for (int t : FAR) {
            refused("thread " + t, x -> apart(x, 3), x -> x.cut(t), UNKNOWN);
        }
    }

    static void promise10NothingFallsByIt() {
        NeckShip x = made(m -> {
            apart(m, 1);
            m.raise(0);
        });
        due("cut", x.cut(0), 1);
        due("up", x.about(0, 5), 1);
        due("not held", x.about(0, 6), 0);
    }

    // ---- 11 threaded

    static void promise11NoSuchThreadIsUnknown() {
        refused("no threads", oneSpar(10, 10, 1), x -> x.threaded(0, 0), UNKNOWN);
        refused("-1", x -> apart(x, 3), x -> x.threaded(-1, 0), UNKNOWN);
        refused("3", x -> apart(x, 3), x -> x.threaded(3, 0), UNKNOWN);
        refused("16 of all", ThreadsBoundsTest::fullOfThreads, x -> x.threaded(16, 3), UNKNOWN);
        for (int t : FAR) {
            refused("thread " + t, x -> apart(x, 3), x -> x.threaded(t, 3), UNKNOWN);
        }
    }

    static void promise11NoSuchQuestionIsOutside() {
        for (int what : new int[] {LEAST, -1, 6, GREATEST}) {
            refused("what " + what, x -> apart(x, 3), x -> x.threaded(0, what), OUTSIDE);
        }
    }

    static void promise11UnknownAheadOfOutside() {
        refused("3 and 6", x -> apart(x, 3), x -> x.threaded(3, 6), UNKNOWN);
        refused("-1 and -1", x -> apart(x, 3), x -> x.threaded(-1, -1), UNKNOWN);
    }

    static void promise11NumbersAtTheirEnds() {
        NeckShip x = made(m -> {
            m.rule(0, 100);
            for (int s = 0; s < 10; s++) {
                m.spar(0, 10, 60, 1, 1);
            }
        });
        x.thread(-20, 0, 1);
        x.thread(120, 9, 60);
        int[][] want = {{-20, 0, 1}, {120, 9, 60}};
        for (int t = 0; t < 2; t++) {
            for (int what = 0; what < 3; what++) {
                due("threaded(" + t + ", " + what + ")", x.threaded(t, what), want[t][what]);
            }
        }
    }

    static void promise11RaisesFromBehindTheFootOnly() {
        for (int way = -1; way <= 1; way += 2) {
            NeckShip x = made(oneSpar(10, 10, way));
            x.thread(10 - way, 0, 1);
            x.thread(10, 0, 1);
            x.thread(10 + way, 0, 1);
            x.thread(way == 1 ? -20 : 70, 0, 1);
            x.thread(way == 1 ? 70 : -20, 0, 1);
            int[] want = {1, 0, 0, 1, 0};
            for (int t = 0; t < 5; t++) {
                due("way " + way + ", thread " + t, x.threaded(t, 4), want[t]);
            }
        }
    }

    static void promise11ACutOneRaisesNot() {
        NeckShip x = made(m -> apart(m, 2));
        due("whole", x.threaded(1, 4), 1);
        x.cut(1);
        due("cut", x.threaded(1, 4), 0);
        due("the other", x.threaded(0, 4), 1);
    }

    static void promise11HowManyWholeOnesCrossIt() {
        NeckShip x = made(m -> {
            m.spar(0, 10, 60, 1, 1);
            for (int t = 0; t < 16; t++) {
                m.thread(0, 0, 30);
                due("all in one line", m.threaded(0, 5), t);
                due("all in one line", m.threaded(t, 5), t);
            }
        });
        x.cut(15);
        due("one is cut", x.threaded(0, 5), 14);
        due("those that cross the cut one", x.threaded(15, 5), 15);
        x.cut(0);
        due("two are cut", x.threaded(0, 5), 14);
        due("two are cut", x.threaded(7, 5), 13);
    }

    // ---- 12 cross

    /** Whether two threads cross: from each hole to each foot and place; asked in both orders of coming. */
    private static int crossOf(int holeA, int footA, int placeA, int holeB, int footB, int placeB) {
        NeckShip x = made(m -> {
            m.spar(0, footA, 60, 1, 1);
            m.spar(0, footB, 60, 1, 1);
            due("thread", m.thread(holeA, 0, placeA), 0);
            due("thread", m.thread(holeB, 1, placeB), 1);
            due("thread", m.thread(holeA, 0, placeA), 2);
        });
        int answer = x.cross(0, 1);
        due("turned", x.cross(1, 0), answer);
        due("come the other way", x.cross(1, 2), answer);
        due("come the other way, turned", x.cross(2, 1), answer);
        due("as counted", x.threaded(1, 5), 2 * answer);
        return answer;
    }

    static void promise12OfOneItself() {
        NeckShip x = made(ThreadsBoundsTest::fullOfThreads);
        for (int t = 0; t < 16; t++) {
            due("itself", x.cross(t, t), 0);
        }
    }

    static void promise12InOneLineFromOneHole() {
        due("the shorter first", crossOf(0, 10, 10, 0, 20, 20), 1);
        due("the longer first", crossOf(0, 20, 20, 0, 10, 10), 1);
        due("the very same", crossOf(0, 10, 10, 0, 10, 10), 1);
        due("the least", crossOf(0, 1, 1, 0, 2, 2), 1);
        due("the other way", crossOf(40, 30, 5, 40, 20, 10), 1);
    }

    static void promise12StraightUpFromOneHole() {
        due("upright", crossOf(10, 10, 1, 10, 10, 60), 1);
        due("upright, the same", crossOf(10, 10, 7, 10, 10, 7), 1);
        due("upright, side by side", crossOf(10, 10, 7, 11, 11, 7), 0);
    }

    static void promise12NearlyInOneLineFromOneHole() {
        due("one lower", crossOf(0, 10, 10, 0, 20, 19), 0);
        due("one higher", crossOf(0, 10, 10, 0, 20, 21), 0);
        due("the greatest", crossOf(-20, 50, 60, -20, 49, 60), 0);
    }

    static void promise12OneHoleAloneIsAnEnd() {
        due("apart from there", crossOf(20, 10, 10, 20, 30, 10), 0);
        due("the same way", crossOf(20, 10, 10, 20, 10, 11), 0);
    }

    static void promise12OnePlaceAloneIsAnEnd() {
        due("from both sides", crossOf(0, 10, 10, 20, 10, 10), 0);
        due("from one side", crossOf(0, 10, 10, 5, 10, 10), 0);
        due("upright and aslant", crossOf(10, 10, 10, 0, 10, 10), 0);
    }

    static void promise12AnEndOfOneWithinTheOther() {
        due("a top on an upright one", crossOf(0, 10, 10, 10, 10, 20), 0);
        due("a top on one aslant", crossOf(0, 20, 20, 20, 10, 10), 0);
        due("a top on one aslant, upright", crossOf(0, 20, 20, 10, 10, 10), 0);
    }

    static void promise12JustBeyondAnEnd() {
        due("one higher than the line", crossOf(0, 20, 20, 10, 10, 11), 1);
        due("at the line", crossOf(0, 20, 20, 10, 10, 10), 0);
        due("one lower than the line", crossOf(0, 20, 20, 10, 10, 9), 0);
        due("a hole one farther in", crossOf(0, 20, 20, 1, 1, 2), 1);
        due("the least that cross", crossOf(0, 1, 1, 1, 0, 1), 1);
        due("side by side", crossOf(0, 1, 1, 1, 2, 1), 0);
    }

    static void promise12OneLineOtherHoles() {
        due("the same slope", crossOf(0, 10, 10, 1, 11, 10), 0);
        due("the same slope, far", crossOf(-20, 0, 60, 50, 50, 60), 0);
    }

    static void promise12TheLongestThreads() {
        due("crosswise over all the hull", crossOf(-20, 50, 60, 70, 0, 60), 1);
        due("the one is above all along", crossOf(-20, 50, 1, 70, 0, 60), 0);
        due("close to a hole", crossOf(-20, 50, 1, -19, 0, 60), 1);
        due("both nearly flat", crossOf(-5, 40, 1, 0, 20, 1), 1);
        due("both nearly flat, one above all along", crossOf(-5, 20, 1, 0, 40, 1), 0);
    }

    static void promise12WholeOrCut() {
        NeckShip x = made(m -> {
            m.spar(0, 10, 60, 1, 1);
            m.thread(0, 0, 30);
            m.thread(0, 0, 30);
        });
        due("both whole", x.cross(0, 1), 1);
        x.cut(0);
        due("one cut", x.cross(0, 1), 1);
        x.cut(1);
        due("both cut", x.cross(0, 1), 1);
    }

    static void promise12UpOrLying() {
        NeckShip x = made(m -> {
            pair(10, 5, 1, 20, 5, 1).on(m);
            m.thread(0, 0, 5);
            m.thread(-5, 1, 5);
        });
        int before = x.cross(2, 3);
        x.raise(0);
        x.raise(1);
        due("all are taken as up", x.cross(2, 3), before);
    }

    static void promise12NoSuchThreadIsUnknown() {
        refused("no threads", oneSpar(10, 10, 1), x -> x.cross(0, 0), UNKNOWN);
        refused("t -1", x -> apart(x, 3), x -> x.cross(-1, 0), UNKNOWN);
        refused("t 3", x -> apart(x, 3), x -> x.cross(3, 0), UNKNOWN);
        refused("u -1", x -> apart(x, 3), x -> x.cross(0, -1), UNKNOWN);
        refused("u 3", x -> apart(x, 3), x -> x.cross(0, 3), UNKNOWN);
        refused("both alike", x -> apart(x, 3), x -> x.cross(3, 3), UNKNOWN);
        refused("16 of all", ThreadsBoundsTest::fullOfThreads, x -> x.cross(0, 16), UNKNOWN);
        for (int far : FAR) {
            refused("t " + far, x -> apart(x, 3), x -> x.cross(far, 1), UNKNOWN);
            refused("u " + far, x -> apart(x, 3), x -> x.cross(1, far), UNKNOWN);
        }
    }

    // ---- 13 raise

    static void promise13NoSuchSparIsUnknown() {
        refused("no spars", x -> x.rule(0, 50), x -> x.raise(0), UNKNOWN);
        refused("-1", x -> apart(x, 3), x -> x.raise(-1), UNKNOWN);
        refused("3", x -> apart(x, 3), x -> x.raise(3), UNKNOWN);
        refused("10 of a full ship", x -> apart(x, 10), x -> x.raise(10), UNKNOWN);
        for (int s : FAR) {
            refused("spar " + s, x -> apart(x, 3), x -> x.raise(s), UNKNOWN);
        }
    }

    static void promise13FromNoneToAll() {
        NeckShip x = made(m -> apart(m, 10));
        for (int s = 0; s < 10; s++) {
            due("how many are up", x.raise(s), s + 1);
        }
        refused("all are up", m -> {
            apart(m, 10);
            for (int s = 0; s < 10; s++) {
                m.raise(s);
            }
        }, m -> m.raise(9), STATE);
    }

    static void promise13WhatIsUpIsState() {
        refused("up", then(x -> apart(x, 2), x -> x.raise(1)), x -> x.raise(1), STATE);
        refused("up, and not held", x -> {
            apart(x, 2);
            x.raise(1);
            x.cut(1);
        }, x -> x.raise(1), STATE);
    }

    static void promise13NoThreadThatRaisesIsState() {
        for (int way = -1; way <= 1; way += 2) {
            int ahead = 10 + way;
            int behind = 10 - way;
            refused("no thread", oneSpar(10, 10, way), x -> x.raise(0), STATE);
            refused("straight below", then(oneSpar(10, 10, way), x -> x.thread(10, 0, 1)), x -> x.raise(0), STATE);
            refused("ahead", then(oneSpar(10, 10, way), x -> x.thread(ahead, 0, 1)), x -> x.raise(0), STATE);
            refused("cut", then(oneSpar(10, 10, way), x -> {
                x.thread(behind, 0, 1);
                x.cut(0);
            }), x -> x.raise(0), STATE);
            due("just behind", made(then(oneSpar(10, 10, way), x -> x.thread(behind, 0, 1))).raise(0), 1);
        }
    }

    static void promise13AnothersThreadIsNone() {
        refused("the other has two", x -> {
            x.spar(0, 10, 5, 1, 1);
            x.spar(0, 20, 5, 1, 1);
            x.thread(9, 0, 1);
            x.thread(9, 0, 1);
        }, x -> x.raise(1), STATE);
    }

    static void promise13OneThatLiesOverItIsState() {
        refused("by the least length", pair(10, 10, 1, 30, 11, -1), x -> x.raise(0), STATE);
        due("one place is no length", made(pair(10, 10, 1, 30, 10, -1)).raise(0), 1);
        refused("within", pair(10, 10, 1, 12, 1, 1), x -> x.raise(0), STATE);
        refused("around", pair(10, 10, 1, 5, 30, 1), x -> x.raise(0), STATE);
        due("it lies over the other", made(pair(10, 10, 1, 30, 11, -1)).raise(1), 1);
    }

    static void promise13OverItButUpIsNoBar() {
        NeckShip x = made(pair(10, 10, 1, 30, 11, -1));
        due("the upper", x.raise(1), 1);
        due("the lower", x.raise(0), 2);
    }

    static void promise13AFootStrictlyWithinIsState() {
        for (int at = 9; at <= 21; at++) {
            int foot = at;
            boolean within = foot > 10 && foot < 20;
            // The other one turns away, so as to be raised first, whichever came first.
            Making later = then(pair(10, 10, 1, foot, 1, -1), x -> due("raise", x.raise(1), 1));
            if (within) {
                refused("foot at " + foot, later, x -> x.raise(0), STATE);
            } else {
                due("foot at " + foot, made(later).raise(0), 2);
            }
            Making back = then(pair(20, 10, -1, foot, 1, 1), x -> due("raise", x.raise(1), 1));
            if (within) {
                refused("back, foot at " + foot, back, x -> x.raise(0), STATE);
            } else {
                due("back, foot at " + foot, made(back).raise(0), 2);
            }
        }
    }

    static void promise13AFootOfALesserNumberBarsToo() {
        for (int at = 10; at <= 20; at++) {
            int foot = at;
            Making earlier = x -> {
                x.spar(0, foot, 1, 1, 1);
                x.thread(foot - 1, 0, 1);
                due("raise", x.raise(0), 1);
                x.spar(0, 10, 10, 1, 1);
                x.thread(9, 1, 1);
            };
            if (foot > 10 && foot < 20) {
                refused("foot at " + foot, earlier, x -> x.raise(1), STATE);
            } else {
                due("foot at " + foot, made(earlier).raise(1), 2);
            }
        }
    }

    static void promise13AFootWithinOfOneThatLiesIsNoBar() {
        NeckShip x = made(pair(15, 5, 1, 10, 10, 1));
        due("the upper, around the lower's foot", x.raise(1), 1);
    }

    // ---- 14 lay

    static void promise14NoSuchSparIsUnknown() {
        refused("no spars", x -> x.rule(0, 50), x -> x.lay(0), UNKNOWN);
        refused("-1", x -> apart(x, 3), x -> x.lay(-1), UNKNOWN);
        refused("3", x -> apart(x, 3), x -> x.lay(3), UNKNOWN);
        refused("10 of a full ship", x -> apart(x, 10), x -> x.lay(10), UNKNOWN);
        for (int s : FAR) {
            refused("spar " + s, then(x -> apart(x, 3), x -> x.raise(0)), x -> x.lay(s), UNKNOWN);
        }
    }

    static void promise14FromAllToNone() {
        NeckShip x = made(m -> {
            apart(m, 10);
            for (int s = 0; s < 10; s++) {
                m.raise(s);
            }
        });
        for (int s = 0; s < 10; s++) {
            due("how many lie", x.lay(s), s + 1);
        }
        due("none is up", x.told(2), 0);
    }

    static void promise14WhatLiesIsState() {
        refused("it lies", x -> apart(x, 3), x -> x.lay(1), STATE);
        refused("it was laid", x -> {
            apart(x, 3);
            x.raise(1);
            x.lay(1);
        }, x -> x.lay(1), STATE);
    }

    static void promise14HeldOrNot() {
        NeckShip x = made(m -> {
            apart(m, 1);
            m.raise(0);
            m.cut(0);
        });
        due("not held", x.lay(0), 1);
    }

    static void promise14AFootStrictlyWithinIsState() {
        for (int at = 10; at <= 20; at++) {
            int foot = at;
            boolean within = foot > 10 && foot < 20;
            Making later = x -> {
                x.spar(0, 10, 10, 1, 1);
                x.thread(9, 0, 1);
                due("raise", x.raise(0), 1);
                x.spar(0, foot, 1, 1, -1);
                x.thread(foot + 1, 1, 1);
                due("raise", x.raise(1), 2);
            };
            if (within) {
                refused("foot at " + foot, later, x -> x.lay(0), STATE);
            } else {
                due("foot at " + foot, made(later).lay(0), 1);
            }
        }
    }

    static void promise14AFootOfALesserNumberBarsToo() {
        for (int at = 10; at <= 20; at++) {
            int foot = at;
            // 1 is laid from 20 back to 10, with the foot of 0 there; 1 has to be up ahead of 0.
            Making earlier = x -> {
                x.spar(0, foot, 1, 1, 1);
                x.spar(0, 20, 10, 1, -1);
                x.thread(foot - 1, 0, 1);
                x.thread(21, 1, 1);
                due("raise", x.raise(1), 1);
                due("raise", x.raise(0), 2);
            };
            if (foot > 10 && foot < 20) {
                refused("foot at " + foot, earlier, x -> x.lay(1), STATE);
            } else {
                due("foot at " + foot, made(earlier).lay(1), 1);
            }
        }
    }

    static void promise14OneThatLiesOverItIsState() {
        for (int length = 9; length <= 12; length++) {
            int of = length;
            Making lower = x -> {
                x.spar(0, 10, 10, 1, 1);
                x.thread(9, 0, 1);
                due("raise", x.raise(0), 1);
                x.spar(0, 30, of, 1, -1);
            };
            if (of > 10) {
                refused("over it by " + (of - 10), lower, x -> x.lay(0), STATE);
            } else {
                due("not over it", made(lower).lay(0), 2);
            }
        }
    }

    static void promise14OneThatLiesUnderItIsNoBar() {
        NeckShip x = made(pair(10, 10, 1, 30, 15, -1));
        due("the upper", x.raise(1), 1);
        due("laid over the lower", x.lay(1), 2);
    }

    static void promise14OverItButUpIsNoBar() {
        NeckShip x = made(pair(10, 10, 1, 30, 15, -1));
        x.raise(1);
        x.raise(0);
        due("the lower", x.lay(0), 1);
        due("the upper", x.lay(1), 2);
    }

    // ---- 15 settle

    static void promise15None() {
        due("no spars", new NeckShip().settle(), 0);
        refused("none is up", x -> apart(x, 3), NeckShip::settle, 0);
        refused("none is up, threads are cut", x -> {
            apart(x, 3);
            x.cut(0);
            x.cut(1);
        }, NeckShip::settle, 0);
        refused("all are held", x -> {
            apart(x, 3);
            x.raise(0);
            x.raise(2);
        }, NeckShip::settle, 0);
    }

    static void promise15AllAtOnce() {
        NeckShip x = made(m -> {
            apart(m, 10);
            for (int s = 0; s < 10; s++) {
                m.raise(s);
                m.cut(s);
            }
        });
        due("ten", x.settle(), 10);
        due("none is up", x.told(2), 0);
        due("and none again", x.settle(), 0);
    }

    static void promise15HeldOnesStay() {
        NeckShip x = made(m -> {
            apart(m, 10);
            for (int s = 0; s < 10; s++) {
                m.raise(s);
            }
            m.cut(0);
            m.cut(9);
        });
        due("two", x.settle(), 2);
        due("the first", x.about(0, 5), 0);
        due("the last", x.about(9, 5), 0);
        due("the others", x.told(2), 8);
    }

    static void promise15OneOfTwoThreadsHolds() {
        NeckShip x = made(m -> {
            apart(m, 1);
            m.thread(-2, 0, 1);
            m.raise(0);
            m.cut(0);
        });
        due("the other holds it", x.settle(), 0);
        x.cut(1);
        due("none holds it", x.settle(), 1);
    }

    static void promise15FallsWhereNoneMayBeLaid() {
        NeckShip x = made(m -> {
            m.spar(0, 12, 1, 1, 1);
            m.spar(0, 20, 10, 1, -1);
            m.thread(11, 0, 1);
            m.thread(21, 1, 1);
            m.raise(1);
            m.raise(0);
            m.cut(1);
        });
        due("a foot within bars laying", x.lay(1), STATE);
        due("but not falling", x.settle(), 1);
        due("it lies around the foot of the other", x.about(1, 5), 0);
        due("the other is up", x.about(0, 5), 1);
    }

    // ---- 16 order

    static void promise16NoneLies() {
        due("no spars", new NeckShip().order(0), UNKNOWN);
        refused("all are up", x -> {
            apart(x, 2);
            x.raise(0);
            x.raise(1);
        }, x -> x.order(0), UNKNOWN);
    }

    static void promise16FirstAndLastOfTheOrder() {
        refused("-1", x -> apart(x, 3), x -> x.order(-1), UNKNOWN);
        refused("the first", x -> apart(x, 3), x -> x.order(0), 0);
        refused("the last", x -> apart(x, 3), x -> x.order(2), 2);
        refused("one beyond", x -> apart(x, 3), x -> x.order(3), UNKNOWN);
        for (int i : FAR) {
            refused("i " + i, x -> apart(x, 3), x -> x.order(i), UNKNOWN);
        }
    }

    static void promise16OfAFullShip() {
        NeckShip x = made(m -> apart(m, 10));
        for (int i = 0; i < 10; i++) {
            due("the least may always rise", x.order(i), i);
        }
        due("beyond", x.order(10), UNKNOWN);
        NeckShip y = made(m -> {
            for (int s = 0; s < 10; s++) {
                m.spar(0, 10, 10, 1, 1);
                m.thread(9, s, 1);
            }
        });
        for (int i = 0; i < 10; i++) {
            due("each lies over all below", y.order(i), 9 - i);
        }
        due("beyond", y.order(10), UNKNOWN);
    }

    static void promise16AsManyAsLie() {
        NeckShip x = made(m -> {
            apart(m, 4);
            m.raise(0);
            m.raise(2);
        });
        due("first", x.order(0), 1);
        due("second", x.order(1), 3);
        due("not below how many lie", x.order(2), UNKNOWN);
    }

    static void promise16NoOrder() {
        Making one = then(x -> apart(x, 3), x -> x.cut(1));
        for (int i = 0; i < 3; i++) {
            int at = i;
            refused("one has no thread, at " + at, one, x -> x.order(at), NONE);
        }
        Making both = then(pair(10, 10, 1, 12, 10, 1), x -> {
            x.spar(0, 40, 1, 1, 1);
            x.thread(39, 2, 1);
        });
        for (int i = 0; i < 3; i++) {
            int at = i;
            refused("1 has to rise ahead of 0 and bars it, at " + at, both, x -> x.order(at), NONE);
        }
    }

    static void promise16UnknownAheadOfNone() {
        Making one = then(x -> apart(x, 3), x -> x.cut(1));
        refused("below", one, x -> x.order(-1), UNKNOWN);
        refused("beyond", one, x -> x.order(3), UNKNOWN);
    }

    static void promise16AFootThatIsUpBars() {
        Making up = x -> {
            x.spar(0, 15, 1, 1, 1);
            x.thread(14, 0, 1);
            x.raise(0);
            x.spar(0, 10, 10, 1, 1);
            x.thread(9, 1, 1);
        };
        refused("within", up, x -> x.order(0), NONE);
        NeckShip x = made(up);
        x.cut(0);
        due("it falls", x.settle(), 1);
        x.thread(14, 0, 1);
        due("now 1 rises first", x.order(0), 1);
        due("then 0", x.order(1), 0);
    }

    static void promise16TheFirstByNumbers() {
        // 3 lies over 0; 1 and 2 are free at any time.
        NeckShip x = made(m -> {
            m.spar(0, 10, 5, 1, 1);
            m.spar(0, 20, 5, 1, 1);
            m.spar(0, 30, 5, 1, 1);
            m.spar(0, 5, 6, 1, 1);
            m.thread(9, 0, 1);
            m.thread(19, 1, 1);
            m.thread(29, 2, 1);
            m.thread(4, 3, 1);
        });
        int[] want = {1, 2, 3, 0};
        for (int i = 0; i < 4; i++) {
            due("order(" + i + ")", x.order(i), want[i]);
        }
    }

    static void promise16RaisesNothing() {
        NeckShip x = made(m -> apart(m, 3));
        x.order(2);
        due("none is up", x.told(2), 0);
    }

    // ---- 17 rising

    static void promise17NoSuchQuestionIsOutside() {
        for (int what : new int[] {LEAST, -1, 3, GREATEST}) {
            refused("what " + what, x -> apart(x, 3), x -> x.rising(what), OUTSIDE);
        }
    }

    private static void dueRising(String what, NeckShip x, int sets, int most, int bits) {
        due(what + ", sets", x.rising(0), sets);
        due(what + ", the most", x.rising(1), most);
        due(what + ", in some", x.rising(2), bits);
    }

    static void promise17WhatIsNowIsASetToo() {
        dueRising("no spars", new NeckShip(), 1, 0, 0);
        dueRising("none can rise", made(oneSpar(10, 10, 1)), 1, 0, 0);
        dueRising("all are up", made(m -> {
            apart(m, 10);
            for (int s = 0; s < 10; s++) {
                m.raise(s);
            }
        }), 1, 10, 1023);
        dueRising("up and not held", made(m -> {
            apart(m, 2);
            m.raise(1);
            m.cut(0);
            m.cut(1);
        }), 1, 1, 2);
    }

    static void promise17AllSets() {
        dueRising("one", made(x -> apart(x, 1)), 2, 1, 1);
        dueRising("nine", made(x -> apart(x, 9)), 512, 9, 511);
        dueRising("ten", made(x -> apart(x, 10)), 1024, 10, 1023);
    }

    static void promise17OneAfterTheOther() {
        NeckShip x = made(m -> {
            for (int s = 0; s < 10; s++) {
                m.spar(0, 10, 10, 1, 1);
                m.thread(9, s, 1);
            }
        });
        dueRising("from 9 down", x, 11, 10, 1023);
        x.cut(4);
        dueRising("down to 5", x, 6, 5, 1023 - 31);
        x.cut(9);
        dueRising("none", x, 1, 0, 0);
    }

    static void promise17AFootWithinBarsOnlyWhenUp() {
        dueRising("1 goes ahead of 0, whose foot lies within", made(pair(15, 1, 1, 10, 10, 1)), 3, 2, 3);
        dueRising("1 goes ahead of 0, and its foot bars it", made(pair(10, 10, 1, 15, 1, 1)), 2, 1, 2);
        dueRising("at the end it bars not", made(pair(10, 10, 1, 20, 11, -1)), 3, 2, 3);
        dueRising("nor is it over", made(pair(10, 10, 1, 20, 1, 1)), 4, 2, 3);
    }

    static void promise17ByRisingAlone() {
        NeckShip x = made(m -> {
            apart(m, 3);
            m.raise(1);
        });
        dueRising("1 stays up", x, 4, 3, 7);
        refused("nothing rises", m -> apart(m, 3), m -> m.rising(0), 8);
    }

    static void promise17AskedAgain() {
        NeckShip x = made(m -> apart(m, 10));
        dueRising("ten", x, 1024, 10, 1023);
        x.cut(0);
        dueRising("nine", x, 512, 9, 1022);
        for (int s = 1; s < 10; s++) {
            x.raise(s);
        }
        dueRising("as it is", x, 1, 9, 1022);
        x.lay(9);
        dueRising("two", x, 2, 9, 1022);
    }
}
