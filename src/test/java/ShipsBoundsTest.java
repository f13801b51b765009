/** The boundary cases of promises 1 to 8, and of what the terms say of the hull, the neck and spars. */
public final class ShipsBoundsTest extends Bounds {
    private static final int[] AT_FIRST = {50, 10, 5, 20, 20};
    private static final int[] GREATEST_MEASURE = {100, 60, 60, 60, 60};
    /** The least and the greatest numbers of a spar on a hull of 50, and the ones below and above. */
    private static final int[] LEAST_SPAR = {0, 0, 1, 1, -1};
    private static final int[] GREATEST_SPAR = {2, 50, 60, 9, 1};
    private static final int[] BELOW_SPAR = {-1, -1, 0, 0, -2};
    private static final int[] ABOVE_SPAR = {3, 51, 61, 10, 2};
    private static final int[] USUAL_SPAR = {1, 20, 10, 2, 1};

    public static void main(String[] args) {
        runAll(ShipsBoundsTest.class);
    }

    private static int spar(NeckShip x, int[] five) {
        return x.spar(five[0], five[1], five[2], five[3], five[4]);
    }

    private static int[] usualBut(int place, int v) {
        int[] five = USUAL_SPAR.clone();
        five[place] = v;
        return five;
    }

    // ---- 1 a new object

    static void promise01NoSpars() {
        NeckShip x = new NeckShip();
        due("told(0)", x.told(0), 0);
        due("about", x.about(0, 0), UNKNOWN);
        due("over", x.over(0, 0), UNKNOWN);
        due("thread", x.thread(0, 0, 1), UNKNOWN);
        due("raise", x.raise(0), UNKNOWN);
        due("lay", x.lay(0), UNKNOWN);
        due("tell", x.tell(0), UNKNOWN);
        due("name", x.name(0), UNKNOWN);
        due("as", x.as(0, 0), UNKNOWN);
        due("order", x.order(0), UNKNOWN);
        due("rig", x.rig(), STATE);
        due("settle", x.settle(), 0);
        due("UP", x.told(2), 0);
        due("HELD", x.told(3), 0);
        due("stack", x.stack(0), 5);
        due("the greatest stack", x.fits(1), 5);
    }

    static void promise01NoThreads() {
        NeckShip x = new NeckShip();
        due("told(1)", x.told(1), 0);
        due("WHOLE", x.told(4), 0);
        due("pairs", x.told(5), 0);
        due("cut", x.cut(0), UNKNOWN);
        due("threaded", x.threaded(0, 0), UNKNOWN);
        due("cross", x.cross(0, 0), UNKNOWN);
    }

    static void promise01NoSheets() {
        NeckShip x = new NeckShip();
        for (int k = 0; k < 4; k++) {
            due("put", x.put(k, 0, 0), NULL);
            due("cell", x.cell(k, 0, 0), LOST);
            due("fault of cell", x.fault(), 1);
            due("plan", x.plan(k, 0, 0, 0), NULL);
            due("copy", x.copy(k, 0, k, 0, 0), NULL);
            due("lose", x.lose(k), 0);
        }
    }

    static void promise01MeasuresAtFirst() {
        NeckShip x = new NeckShip();
        for (int what = 0; what < 5; what++) {
            due("measure " + what, x.rule(what, 1), AT_FIRST[what]);
        }
    }

    static void promise01TraceAndFaultAre0() {
        due("trace", new NeckShip().trace(), 0);
        due("fault", new NeckShip().fault(), 0);
    }

    static void promise01ObjectsShareNothing() {
        NeckShip y = new NeckShip();
        NeckShip x = made(m -> {
            apart(m, 2);
            m.raise(0);
            m.rule(2, 7);
            write(m, 0, 2, 9);
            m.tell(0);
            m.put(0, 1, 1);
        });
        due("its own", x.told(2), 1);
        for (int what = 0; what < 6; what++) {
            due("the other's told(" + what + ")", y.told(what), 0);
        }
        due("the other's trace", y.trace(), 0);
        due("the other's fault", y.fault(), 0);
        due("the other's sheet", y.lose(0), 0);
        due("the other's depth", y.rule(2, 5), 5);
    }

    static void promise01Answers512Calls() {
        NeckShip x = new NeckShip();
        due("call 1", x.spar(1, 7, 8, 2, 1), 0);
        int trace = 0;
        for (int call = 2; call < 512; call++) {
            due("call " + call, x.tell(0), 15);
            trace = 31 * (31 * trace + 2) + 1;
        }
        due("call 512", x.trace(), trace);
    }

    static void promise01Rises512Calls() {
        NeckShip x = made(m -> apart(m, 10));
        for (int n = 0; n < 246; n++) {
            due("raise", x.raise(n % 10), 1);
            due("lay", x.lay(n % 10), 10);
        }
    }

    // ---- 2 rule

    static void promise02LeastMeasureIs1() {
        for (int what = 0; what < 5; what++) {
            NeckShip x = new NeckShip();
            due("0 for " + what, x.rule(what, 0), OUTSIDE);
            due("1 for " + what, x.rule(what, 1), AT_FIRST[what]);
            due("was 1 for " + what, x.rule(what, AT_FIRST[what]), 1);
        }
    }

    static void promise02GreatestMeasureIs100Or60() {
        for (int what = 0; what < 5; what++) {
            NeckShip x = new NeckShip();
            due("one above for " + what, x.rule(what, GREATEST_MEASURE[what] + 1), OUTSIDE);
            due("greatest for " + what, x.rule(what, GREATEST_MEASURE[what]), AT_FIRST[what]);
            due("was greatest for " + what, x.rule(what, 1), GREATEST_MEASURE[what]);
        }
    }

    static void promise02MeasuresFarOutside() {
        for (int what = 0; what < 5; what++) {
            int of = what;
            for (int v : new int[] {LEAST, LEAST + 1, -1, -50, 1000, GREATEST - 20, GREATEST - 19, GREATEST}) {
                refused("rule(" + of + ", " + v + ")", x -> apart(x, 1), x -> x.rule(of, v), OUTSIDE);
            }
        }
    }

    static void promise02NoSuchMeasureIsUnknown() {
        for (int what : new int[] {LEAST, -1, 5, 32, GREATEST}) {
            refused("rule(" + what + ", 7)", x -> apart(x, 1), x -> x.rule(what, 7), UNKNOWN);
        }
    }

    static void promise02UnknownAheadOfOutsideAndState() {
        refused("5 and 0", x -> apart(x, 1), x -> x.rule(5, 0), UNKNOWN);
        refused("-1 and 101", x -> apart(x, 1), x -> x.rule(-1, 101), UNKNOWN);
        refused("below a foot", x -> x.spar(0, 50, 1, 1, 1), x -> x.rule(5, 1), UNKNOWN);
    }

    static void promise02LengthBelowSomeFootIsState() {
        for (int foot : new int[] {2, 30, 50}) {
            Making one = x -> x.spar(0, foot, 1, 1, 1);
            refused("one below " + foot, one, x -> x.rule(0, foot - 1), STATE);
            refused("far below " + foot, one, x -> x.rule(0, 1), STATE);
            due("at " + foot, made(one).rule(0, foot), 50);
        }
    }

    static void promise02EachFootCounts() {
        for (int greatest = 0; greatest < 3; greatest++) {
            int of = greatest;
            Making three = x -> {
                for (int s = 0; s < 3; s++) {
                    x.spar(0, s == of ? 40 : 10, 1, 1, 1);
                }
            };
            refused("one below the greatest", three, x -> x.rule(0, 39), STATE);
            due("at the greatest", made(three).rule(0, 40), 50);
        }
    }

    static void promise02FootOfASparThatIsUpCounts() {
        Making up = x -> {
            x.spar(0, 40, 1, 1, 1);
            x.thread(39, 0, 1);
            due("raise", x.raise(0), 1);
        };
        refused("one below", up, x -> x.rule(0, 39), STATE);
    }

    static void promise02LengthAnd20BelowSomeHoleIsState() {
        for (int hole : new int[] {22, 60, 70}) {
            Making one = x -> {
                x.spar(0, 0, 1, 1, 1);
                due("thread", x.thread(hole, 0, 1), 0);
            };
            refused("21 below " + hole, one, x -> x.rule(0, hole - 21), STATE);
            due("20 below " + hole, made(one).rule(0, hole - 20), 50);
        }
        NeckShip x = made(m -> m.spar(0, 0, 1, 1, 1));
        x.thread(21, 0, 1);
        due("20 below 21 is the least length", x.rule(0, 1), 50);
    }

    static void promise02EachHoleCounts() {
        for (int greatest = 0; greatest < 3; greatest++) {
            int of = greatest;
            Making three = x -> {
                x.spar(0, 0, 1, 1, 1);
                for (int t = 0; t < 3; t++) {
                    x.thread(t == of ? 60 : -20, 0, 1);
                }
            };
            refused("21 below the greatest", three, x -> x.rule(0, 39), STATE);
            due("20 below the greatest", made(three).rule(0, 40), 50);
        }
    }

    static void promise02HoleOfACutThreadCounts() {
        Making cut = x -> {
            x.spar(0, 0, 1, 1, 1);
            x.thread(60, 0, 1);
            x.cut(0);
        };
        refused("21 below", cut, x -> x.rule(0, 39), STATE);
        due("20 below", made(cut).rule(0, 40), 50);
    }

    static void promise02OutsideAheadOfState() {
        refused("0, below a foot", x -> x.spar(0, 50, 1, 1, 1), x -> x.rule(0, 0), OUTSIDE);
        refused("least, below a foot", x -> x.spar(0, 50, 1, 1, 1), x -> x.rule(0, LEAST), OUTSIDE);
    }

    static void promise02StateIsOfLengthAlone() {
        NeckShip x = made(m -> {
            m.spar(0, 50, 1, 1, 1);
            m.thread(70, 0, 1);
        });
        for (int what = 1; what < 5; what++) {
            due("rule(" + what + ", 1)", x.rule(what, 1), AT_FIRST[what]);
        }
    }

    static void promise02TheSameAgain() {
        NeckShip x = made(m -> {
            m.spar(0, 50, 1, 1, 1);
            m.thread(70, 0, 1);
        });
        due("50", x.rule(0, 50), 50);
        due("50 again", x.rule(0, 50), 50);
    }

    // ---- 3 spar

    static void promise03LeastNumbers() {
        NeckShip x = new NeckShip();
        due("least", spar(x, LEAST_SPAR), 0);
        for (int what = 0; what < 5; what++) {
            due("about " + what, x.about(0, what), LEAST_SPAR[what]);
        }
    }

    static void promise03GreatestNumbers() {
        NeckShip x = new NeckShip();
        due("greatest", spar(x, GREATEST_SPAR), 0);
        for (int what = 0; what < 5; what++) {
            due("about " + what, x.about(0, what), GREATEST_SPAR[what]);
        }
    }

    static void promise03EachNumberAloneAtItsEnds() {
        NeckShip x = new NeckShip();
        for (int place = 0; place < 5; place++) {
            due("least of " + place, spar(x, usualBut(place, LEAST_SPAR[place])), 2 * place);
            due("greatest of " + place, spar(x, usualBut(place, GREATEST_SPAR[place])), 2 * place + 1);
        }
    }

    static void promise03EachNumberAloneOneBelowAndOneAbove() {
        for (int place = 0; place < 5; place++) {
            int[] below = usualBut(place, BELOW_SPAR[place]);
            int[] above = usualBut(place, ABOVE_SPAR[place]);
            refused("below of " + place, x -> apart(x, 1), x -> spar(x, below), OUTSIDE);
            refused("above of " + place, x -> apart(x, 1), x -> spar(x, above), OUTSIDE);
        }
    }

    static void promise03EachNumberAloneFarOutside() {
        for (int place = 0; place < 5; place++) {
            for (int v : new int[] {LEAST, LEAST + 1, -257, -255, 255, 257, 65537, GREATEST}) {
                int[] five = usualBut(place, v);
                refused(v + " of " + place, x -> apart(x, 1), x -> spar(x, five), OUTSIDE);
            }
        }
    }

    static void promise03WayIsNot0() {
        refused("0", x -> apart(x, 1), x -> spar(x, usualBut(4, 0)), OUTSIDE);
    }

    static void promise03FootFollowsLength() {
        Making shorter = x -> x.rule(0, 7);
        refused("above 7", shorter, x -> spar(x, usualBut(1, 8)), OUTSIDE);
        due("7", spar(made(shorter), usualBut(1, 7)), 0);
        Making longest = x -> x.rule(0, 100);
        refused("above 100", longest, x -> spar(x, usualBut(1, 101)), OUTSIDE);
        due("100", spar(made(longest), usualBut(1, 100)), 0);
    }

    static void promise03TenEver() {
        NeckShip x = new NeckShip();
        for (int s = 0; s < 10; s++) {
            due("numbered as they come", spar(x, USUAL_SPAR), s);
            due("how many", x.told(0), s + 1);
        }
        due("the eleventh", spar(x, USUAL_SPAR), FULL);
        due("and again", spar(x, USUAL_SPAR), FULL);
        due("how many", x.told(0), 10);
    }

    static void promise03FullChangesNothing() {
        refused("full", x -> apart(x, 10), x -> spar(x, USUAL_SPAR), FULL);
        refused("full, with some up", x -> {
            apart(x, 10);
            x.raise(9);
            x.raise(0);
        }, x -> x.spar(2, 0, 60, 9, 1), FULL);
    }

    static void promise03OutsideAheadOfFull() {
        for (int place = 0; place < 5; place++) {
            int[] above = usualBut(place, ABOVE_SPAR[place]);
            refused("above of " + place, x -> apart(x, 10), x -> spar(x, above), OUTSIDE);
        }
    }

    static void promise03LiesAtFirst() {
        NeckShip x = made(m -> {
            apart(m, 2);
            m.raise(0);
            m.raise(1);
        });
        due("spar", spar(x, USUAL_SPAR), 2);
        due("it lies", x.about(2, 5), 0);
        due("the others are up still", x.told(2), 2);
    }

    // ---- 4 plan

    private static final int[] TEN_SPARS = tenSpars();

    private static int[] tenSpars() {
        int[] row = new int[50];
        for (int s = 0; s < 10; s++) {
            System.arraycopy(new int[] {s % 3, 5 * s, s + 1, 1 + s % 9, s % 2 == 0 ? 1 : -1}, 0, row, 5 * s, 5);
        }
        return row;
    }

    private static Making row(int lane, int... row) {
        return x -> write(x, 1, lane, row);
    }

    private static int[] fives(int... spars) {
        int[] row = new int[5 * spars.length];
        for (int s = 0; s < spars.length; s++) {
            System.arraycopy(usualBut(1, spars[s]), 0, row, 5 * s, 5);
        }
        return row;
    }

    static void promise04NoneOfARow() {
        NeckShip x = made(row(2, 7, 7, 7));
        for (int i = 0; i <= 3; i++) {
            due("none from " + i, x.plan(1, 2, i, 0), 0);
            due("fault", x.fault(), 0);
        }
        x.spar(0, 0, 1, 1, 1);
        due("how many there are then", x.plan(1, 2, 3, 0), 1);
    }

    static void promise04NoneOfAnEmptyRow() {
        due("none", made(row(0)).plan(1, 0, 0, 0), 0);
        faulted("one", row(0), x -> x.plan(1, 0, 0, 1), INDEX);
        faulted("none from 1", row(0), x -> x.plan(1, 0, 1, 0), INDEX);
        faulted("none from -1", row(0), x -> x.plan(1, 0, -1, 0), INDEX);
    }

    static void promise04TenOfTheLongestRow() {
        for (int lane = 0; lane < 3; lane++) {
            NeckShip x = made(row(lane, TEN_SPARS));
            due("ten", x.plan(1, lane, 0, 10), 10);
            for (int n = 0; n < 50; n++) {
                due("about " + n, x.about(n / 5, n % 5), TEN_SPARS[n]);
            }
        }
    }

    static void promise04ComesAsSparDoes() {
        NeckShip planned = made(row(1, TEN_SPARS));
        planned.plan(1, 1, 0, 10);
        NeckShip x = new NeckShip();
        for (int s = 0; s < 10; s++) {
            x.spar(TEN_SPARS[5 * s], TEN_SPARS[5 * s + 1], TEN_SPARS[5 * s + 2], TEN_SPARS[5 * s + 3], TEN_SPARS[5 * s + 4]);
        }
        for (int a = 0; a < 10; a++) {
            for (int b = 0; b < 10; b++) {
                due("over(" + a + ", " + b + ")", planned.over(a, b), x.over(a, b));
            }
        }
        due("the greatest stack", planned.fits(1), x.fits(1));
    }

    static void promise04NoSuchSheetIsUnknown() {
        for (int k : new int[] {LEAST, -1, 4, 32, GREATEST}) {
            refusedNamingFaults("sheet " + k, row(2, TEN_SPARS), x -> x.plan(k, 2, 0, 1), UNKNOWN);
        }
    }

    static void promise04NoSuchLaneIsOutside() {
        for (int lane : new int[] {LEAST, -1, 3, GREATEST}) {
            refusedNamingFaults("lane " + lane, row(2, TEN_SPARS), x -> x.plan(1, lane, 0, 1), OUTSIDE);
        }
    }

    static void promise04UnknownAheadOfLane() {
        refusedNamingFaults("4 and 3", x -> apart(x, 1), x -> x.plan(4, 3, 0, 1), UNKNOWN);
        refusedNamingFaults("-1 and -1", x -> apart(x, 1), x -> x.plan(-1, -1, -1, -1), UNKNOWN);
    }

    static void promise04LaneAheadOfFaults() {
        refusedNamingFaults("nothing there", x -> apart(x, 1), x -> x.plan(1, 3, -1, -1), OUTSIDE);
        refusedNamingFaults("n below 0", row(2, TEN_SPARS), x -> x.plan(1, 3, -1, -1), OUTSIDE);
        refusedNamingFaults("no such cells", row(2, TEN_SPARS), x -> x.plan(1, -1, 51, 1), OUTSIDE);
    }

    static void promise04AnotherLaneIsCast() {
        for (int lane = 0; lane < 3; lane++) {
            for (int as = 0; as < 3; as++) {
                int taken = as;
                if (taken != lane) {
                    faulted(lane + " as " + taken, row(lane, fives(1)), x -> x.plan(1, taken, 0, 1), CAST);
                    faulted(lane + " as " + taken + ", empty", row(lane), x -> x.plan(1, taken, 0, 0), CAST);
                }
            }
        }
    }

    static void promise04NothingIsNoCast() {
        for (int lane = 0; lane < 3; lane++) {
            int taken = lane;
            faulted("never a row", x -> apart(x, 1), x -> x.plan(1, taken, 0, 0), NULL);
            faulted("a row lost", x -> {
                write(x, 1, 1, 1);
                x.lose(1);
            }, x -> x.plan(1, taken, 0, 0), NULL);
        }
    }

    static void promise04CastAheadOfSizeAndIndex() {
        faulted("SIZE", row(1, fives(1)), x -> x.plan(1, 2, 0, -1), CAST);
        faulted("INDEX", row(1, fives(1)), x -> x.plan(1, 0, 0, 2), CAST);
        faulted("both", row(1, fives(1)), x -> x.plan(1, 0, -1, -1), CAST);
    }

    static void promise04NullAheadOfSizeAndIndex() {
        faulted("SIZE", x -> apart(x, 1), x -> x.plan(1, 2, 0, -1), NULL);
        faulted("INDEX", x -> apart(x, 1), x -> x.plan(1, 2, 0, 1), NULL);
        faulted("both", x -> apart(x, 1), x -> x.plan(1, 2, -1, -1), NULL);
    }

    static void promise04NBelow0IsSize() {
        for (int n : new int[] {-1, -2, -858993459, LEAST + 1, LEAST}) {
            faulted("n " + n, row(2, fives(1, 2)), x -> x.plan(1, 2, 0, n), SIZE);
            faulted("n " + n + ", from 10", row(2, fives(1, 2)), x -> x.plan(1, 2, 10, n), SIZE);
        }
    }

    static void promise04SizeAheadOfIndex() {
        faulted("below", row(2, fives(1)), x -> x.plan(1, 2, -1, -1), SIZE);
        faulted("beyond", row(2, fives(1)), x -> x.plan(1, 2, 6, -1), SIZE);
    }

    static void promise04NotAllCellsAreThereIsIndex() {
        Making eleven = row(2, 1, 20, 10, 2, 1, 1, 20, 10, 2, 1, 1);
        due("two from 0", made(eleven).plan(1, 2, 0, 2), 2);
        due("one from 5", made(eleven).plan(1, 2, 5, 1), 1);
        faulted("two from 2", eleven, x -> x.plan(1, 2, 2, 2), INDEX);
        faulted("one from 7", eleven, x -> x.plan(1, 2, 7, 1), INDEX);
        faulted("one from 11", eleven, x -> x.plan(1, 2, 11, 1), INDEX);
        faulted("three from 0", eleven, x -> x.plan(1, 2, 0, 3), INDEX);
        faulted("one from -1", eleven, x -> x.plan(1, 2, -1, 1), INDEX);
        faulted("none from -1", eleven, x -> x.plan(1, 2, -1, 0), INDEX);
        faulted("none from 12", eleven, x -> x.plan(1, 2, 12, 0), INDEX);
        due("none from 11", made(eleven).plan(1, 2, 11, 0), 0);
    }

    static void promise04OneCellTooFewAtTheLongestRow() {
        faulted("ten from 1", row(2, TEN_SPARS), x -> x.plan(1, 2, 1, 10), INDEX);
        faulted("eleven", row(2, TEN_SPARS), x -> x.plan(1, 2, 0, 11), INDEX);
        due("nine from 5", made(row(2, TEN_SPARS)).plan(1, 2, 5, 9), 9);
    }

    static void promise04CellsPastAnIntsEndAreIndex() {
        // Five times n wraps to 4, to a number below 0, to 0 nearly; i and five times n wrap to little.
        for (int n : new int[] {858993460, 429496730, 858993459, 1717986918, GREATEST}) {
            faulted("n " + n, row(2, TEN_SPARS), x -> x.plan(1, 2, 0, n), INDEX);
            faulted("n " + n + " from 50", row(2, TEN_SPARS), x -> x.plan(1, 2, 50, n), INDEX);
        }
        for (int i : new int[] {LEAST, LEAST + 5, GREATEST - 4, GREATEST}) {
            faulted("from " + i, row(2, TEN_SPARS), x -> x.plan(1, 2, i, 1), INDEX);
            faulted("none from " + i, row(2, TEN_SPARS), x -> x.plan(1, 2, i, 0), INDEX);
        }
        faulted("both", row(2, TEN_SPARS), x -> x.plan(1, 2, GREATEST, GREATEST), INDEX);
        faulted("to 0", row(2, TEN_SPARS), x -> x.plan(1, 2, GREATEST - 4, 1), INDEX);
    }

    static void promise04IndexAheadOfOutsideAndFull() {
        faulted("OUTSIDE", row(2, fives(51)), x -> x.plan(1, 2, 0, 2), INDEX);
        faulted("FULL", x -> {
            apart(x, 10);
            write(x, 1, 2, fives(1));
        }, x -> x.plan(1, 2, 0, 2), INDEX);
    }

    static void promise04OutsideOfAnyOneThenNoneComes() {
        for (int at = 0; at < 3; at++) {
            int[] feet = {10, 20, 30};
            feet[at] = 51;
            refusedNamingFaults("the one at " + at, row(2, fives(feet)), x -> x.plan(1, 2, 0, 3), OUTSIDE);
        }
    }

    static void promise04OutsideOfEachNumber() {
        for (int place = 0; place < 5; place++) {
            int[] below = usualBut(place, BELOW_SPAR[place]);
            int[] above = usualBut(place, ABOVE_SPAR[place]);
            refusedNamingFaults("below of " + place, row(2, below), x -> x.plan(1, 2, 0, 1), OUTSIDE);
            refusedNamingFaults("above of " + place, row(2, above), x -> x.plan(1, 2, 0, 1), OUTSIDE);
            due("least of " + place, made(row(2, usualBut(place, LEAST_SPAR[place]))).plan(1, 2, 0, 1), 1);
            due("greatest of " + place, made(row(2, usualBut(place, GREATEST_SPAR[place]))).plan(1, 2, 0, 1), 1);
        }
    }

    static void promise04FullOfTheFirstTooManyThenNoneComes() {
        for (int room = 0; room < 3; room++) {
            int left = room;
            Making nearlyFull = x -> {
                apart(x, 10 - left);
                write(x, 1, 2, fives(1, 2, 3));
            };
            refusedNamingFaults("room for " + left, nearlyFull, x -> x.plan(1, 2, 0, left + 1), FULL);
            due("just as many", made(nearlyFull).plan(1, 2, 0, left), 10);
        }
    }

    static void promise04RefusalIsThatOfTheFirstOne() {
        Making roomForOne = x -> {
            apart(x, 9);
            write(x, 1, 2, fives(1, 51, 2, 3, 51));
        };
        refusedNamingFaults("OUTSIDE, and FULL too", roomForOne, x -> x.plan(1, 2, 0, 2), OUTSIDE);
        refusedNamingFaults("OUTSIDE ahead of FULL", roomForOne, x -> x.plan(1, 2, 5, 2), OUTSIDE);
        refusedNamingFaults("FULL ahead of OUTSIDE", roomForOne, x -> x.plan(1, 2, 10, 3), FULL);
    }

    static void promise04CellsCutToTheirLane() {
        due("bytes", made(row(0, 257, 256 + 20, -256 + 10, 512 + 2, 255)).plan(1, 0, 0, 1), 1);
        due("shorts", made(row(1, 65537, 65536 + 20, 10, 2, 65535)).plan(1, 1, 0, 1), 1);
        refusedNamingFaults("ints", row(2, 257, 20, 10, 2, 1), x -> x.plan(1, 2, 0, 1), OUTSIDE);
    }

    // ---- 5 about

    static void promise05NoSuchSparIsUnknown() {
        refused("-1", x -> apart(x, 3), x -> x.about(-1, 0), UNKNOWN);
        refused("3", x -> apart(x, 3), x -> x.about(3, 0), UNKNOWN);
        refused("10 of a full ship", x -> apart(x, 10), x -> x.about(10, 0), UNKNOWN);
        for (int s : FAR) {
            refused("spar " + s, x -> apart(x, 3), x -> x.about(s, 5), UNKNOWN);
        }
        due("the first", made(x -> apart(x, 3)).about(0, 1), 0);
        due("the last", made(x -> apart(x, 3)).about(2, 1), 10);
        due("the last of a full ship", made(x -> apart(x, 10)).about(9, 1), 45);
    }

    static void promise05NoSuchQuestionIsOutside() {
        for (int what : new int[] {LEAST, -1, 10, 32, GREATEST}) {
            refused("what " + what, x -> apart(x, 3), x -> x.about(0, what), OUTSIDE);
        }
    }

    static void promise05UnknownAheadOfOutside() {
        refused("3 and 10", x -> apart(x, 3), x -> x.about(3, 10), UNKNOWN);
        refused("-1 and -1", x -> apart(x, 3), x -> x.about(-1, -1), UNKNOWN);
    }

    static void promise05HeldIsUpAndRaised() {
        NeckShip x = made(m -> apart(m, 1));
        due("it lies", x.about(0, 6), 0);
        x.raise(0);
        due("up and raised", x.about(0, 6), 1);
        x.cut(0);
        due("up and not raised", x.about(0, 6), 0);
        x.thread(0, 0, 1);
        due("a thread straight below raises not", x.about(0, 6), 0);
        x.thread(-1, 0, 1);
        due("raised anew", x.about(0, 6), 1);
    }

    static void promise05MayRise() {
        NeckShip x = made(m -> {
            apart(m, 1);
            m.spar(0, 4, 1, 1, 1);
        });
        due("one lies over it", x.about(0, 7), 0);
        due("no thread", x.about(1, 7), 0);
        x.thread(3, 1, 1);
        due("free", x.about(1, 7), 1);
        x.raise(1);
        due("it is up", x.about(1, 7), 0);
        due("a foot within", x.about(0, 7), 0);
    }

    static void promise05HowManyThreadsRaise() {
        NeckShip x = made(m -> m.spar(0, 10, 10, 1, 1));
        due("none yet", x.about(0, 8), 0);
        for (int t = 0; t < 16; t++) {
            x.thread(9 - t, 0, 1);
            due("threads", x.about(0, 8), t + 1);
        }
        x.cut(15);
        x.cut(0);
        due("without two", x.about(0, 8), 14);
    }

    static void promise05HowManyLieOverIt() {
        NeckShip x = new NeckShip();
        for (int s = 0; s < 10; s++) {
            x.spar(0, 10, 10, 1, 1);
            x.thread(9, s, 1);
        }
        for (int s = 0; s < 10; s++) {
            due("over " + s, x.about(s, 9), 9 - s);
        }
        x.raise(9);
        due("those that lie", x.about(0, 9), 8);
        due("none that lies", x.about(8, 9), 0);
        due("none is over the last", x.about(9, 9), 0);
    }

    // ---- 6 over

    private static int overOf(int footA, int longA, int wayA, int footB, int longB, int wayB) {
        NeckShip x = new NeckShip();
        due("a", x.spar(0, footA, longA, 1, wayA), 0);
        due("b", x.spar(0, footB, longB, 1, wayB), 1);
        due("the lesser lies over none", x.over(1, 0), 0);
        return x.over(0, 1);
    }

    static void promise06OnePlaceIsNoLength() {
        due("end to foot", overOf(10, 10, 1, 20, 5, 1), 0);
        due("foot to end", overOf(20, 5, 1, 10, 10, 1), 0);
        due("foot to foot", overOf(20, 5, 1, 20, 5, -1), 0);
        due("end to end", overOf(10, 10, 1, 30, 10, -1), 0);
        due("end to end, back", overOf(30, 10, -1, 10, 10, 1), 0);
    }

    static void promise06NoPlaceAtAll() {
        due("apart", overOf(10, 9, 1, 20, 5, 1), 0);
        due("apart, back", overOf(20, 5, 1, 10, 9, 1), 0);
        due("away from one another", overOf(20, 60, 1, 19, 60, -1), 0);
    }

    static void promise06TheLeastLength() {
        due("by 1", overOf(10, 11, 1, 20, 5, 1), 1);
        due("by 1, back", overOf(20, 5, 1, 10, 11, 1), 1);
        due("end over end", overOf(10, 10, 1, 29, 10, -1), 1);
        due("within", overOf(10, 10, 1, 15, 1, 1), 1);
        due("around", overOf(15, 1, 1, 10, 10, 1), 1);
        due("the same", overOf(10, 1, 1, 10, 1, 1), 1);
        due("the same, turned", overOf(10, 1, 1, 11, 1, -1), 1);
        due("from one foot", overOf(10, 1, 1, 10, 60, 1), 1);
    }

    static void promise06BeyondTheHull() {
        due("ahead of 0", overOf(0, 60, -1, 0, 1, -1), 1);
        due("beyond the end", overOf(50, 60, 1, 50, 1, 1), 1);
        due("one place at 0", overOf(0, 60, -1, 0, 60, 1), 0);
    }

    static void promise06NotOverItself() {
        NeckShip x = made(m -> apart(m, 2));
        due("0", x.over(0, 0), 0);
        due("1", x.over(1, 1), 0);
    }

    static void promise06AsIfBothLay() {
        NeckShip x = made(m -> {
            m.spar(0, 10, 5, 1, 1);
            m.spar(0, 5, 9, 1, 1);
            m.thread(9, 0, 1);
            m.thread(4, 1, 1);
            due("raise", m.raise(1), 1);
        });
        due("b is up", x.over(0, 1), 1);
        due("raise", x.raise(0), 2);
        due("both are up", x.over(0, 1), 1);
    }

    static void promise06LastOfAFullShip() {
        NeckShip x = new NeckShip();
        for (int s = 0; s < 10; s++) {
            x.spar(0, 10, 10, 1, 1);
        }
        due("9 over 0", x.over(0, 9), 1);
        due("9 over 8", x.over(8, 9), 1);
        due("0 over 9", x.over(9, 0), 0);
    }

    static void promise06NoSuchSparIsUnknown() {
        Making three = x -> {
            x.spar(0, 10, 10, 1, 1);
            x.spar(0, 10, 10, 1, 1);
            x.spar(0, 10, 10, 1, 1);
        };
        refused("a -1", three, x -> x.over(-1, 0), UNKNOWN);
        refused("a 3", three, x -> x.over(3, 0), UNKNOWN);
        refused("b -1", three, x -> x.over(0, -1), UNKNOWN);
        refused("b 3", three, x -> x.over(0, 3), UNKNOWN);
        refused("both alike", three, x -> x.over(3, 3), UNKNOWN);
        for (int far : FAR) {
            refused("a " + far, three, x -> x.over(far, 1), UNKNOWN);
            refused("b " + far, three, x -> x.over(0, far), UNKNOWN);
        }
    }

    // ---- 7 stack

    static void promise07LeastAndGreatestPlace() {
        NeckShip x = new NeckShip();
        due("-100", x.stack(-100), 5);
        due("200", x.stack(200), 5);
        for (int u : new int[] {-101, 201, LEAST, LEAST + 1, GREATEST - 1, GREATEST}) {
            refused("u " + u, m -> apart(m, 2), m -> m.stack(u), OUTSIDE);
        }
    }

    static void promise07CoversFromItsFootOn() {
        NeckShip x = made(m -> m.spar(0, 10, 3, 4, 1));
        due("ahead of its foot", x.stack(9), 5);
        due("from its foot", x.stack(10), 9);
        due("up to its end", x.stack(12), 9);
        due("from its end on", x.stack(13), 5);
    }

    static void promise07CoversBackFromItsFoot() {
        NeckShip x = made(m -> m.spar(0, 10, 3, 4, -1));
        due("ahead of its end", x.stack(6), 5);
        due("from its end", x.stack(7), 9);
        due("up to its foot", x.stack(9), 9);
        due("from its foot on", x.stack(10), 5);
    }

    static void promise07ShortestSparCoversOnePlace() {
        NeckShip x = made(m -> m.spar(0, 0, 1, 1, -1));
        due("-2", x.stack(-2), 5);
        due("-1", x.stack(-1), 6);
        due("0", x.stack(0), 5);
    }

    static void promise07FarthestThatIsCovered() {
        NeckShip x = made(m -> {
            m.rule(0, 100);
            m.spar(0, 100, 60, 9, 1);
            m.spar(0, 0, 60, 8, -1);
        });
        due("159", x.stack(159), 14);
        due("160", x.stack(160), 5);
        due("-60", x.stack(-60), 13);
        due("-61", x.stack(-61), 5);
        due("between them", x.stack(50), 5);
    }

    static void promise07GreatestSum() {
        NeckShip x = made(m -> {
            m.rule(2, 60);
            for (int s = 0; s < 10; s++) {
                m.spar(0, 20, 10, 9, 1);
                m.thread(19, s, 1);
            }
        });
        due("ten of 9 and 60", x.stack(25), 150);
        for (int s = 9; s >= 0; s--) {
            due("raise", x.raise(s), 10 - s);
            due("those that lie", x.stack(25), 60 + 9 * s);
        }
    }

    // ---- 8 fits

    static void promise08NoSuchQuestionIsOutside() {
        for (int what : new int[] {LEAST, -1, 3, GREATEST}) {
            refused("what " + what, x -> apart(x, 2), x -> x.fits(what), OUTSIDE);
        }
    }

    static void promise08HeightAtMost() {
        NeckShip x = made(m -> m.spar(0, 10, 10, 9, 1));
        due("the greatest", x.fits(1), 14);
        x.rule(4, 13);
        due("one too low", x.fits(0), 0);
        x.rule(4, 14);
        due("just", x.fits(0), 1);
        x.rule(4, 15);
        due("more", x.fits(0), 1);
    }

    static void promise08WidthAtMost() {
        NeckShip x = new NeckShip();
        x.rule(3, 9);
        due("one too narrow", x.fits(0), 0);
        x.rule(3, 10);
        due("just", x.fits(0), 1);
        x.rule(3, 11);
        due("more", x.fits(0), 1);
        x.rule(1, 12);
        due("one too broad", x.fits(0), 0);
    }

    static void promise08BothAreAsked() {
        NeckShip x = made(m -> {
            m.rule(3, 9);
            m.rule(4, 4);
        });
        due("too narrow, too low", x.fits(0), 0);
        x.rule(3, 10);
        due("too low", x.fits(0), 0);
        x.rule(4, 5);
        due("neither", x.fits(0), 1);
    }

    static void promise08DepthIfNoneLies() {
        NeckShip x = new NeckShip();
        due("no spars", x.fits(1), 5);
        apart(x, 1);
        due("one lies", x.fits(1), 6);
        x.raise(0);
        due("none lies", x.fits(1), 5);
        x.rule(2, 60);
        due("the deepest", x.fits(1), 60);
        x.rule(4, 59);
        due("too deep", x.fits(0), 0);
        x.rule(4, 60);
        due("just", x.fits(0), 1);
    }

    static void promise08GreatestStackWhereverItIs() {
        int[][] spars = {{0, 60, 9, -1}, {50, 60, 9, 1}, {0, 1, 9, -1}, {50, 1, 9, 1}, {50, 60, 9, -1}};
        for (int[] s : spars) {
            due("one alone", made(m -> m.spar(0, s[0], s[1], s[2], s[3])).fits(1), 14);
        }
        NeckShip x = made(m -> {
            m.spar(0, 0, 20, 1, 1);
            m.spar(0, 40, 20, 2, -1);
            m.spar(0, 19, 2, 4, 1);
        });
        due("touching ones do not add up", x.fits(1), 5 + 6);
        due("left", x.stack(19), 5 + 5);
        due("right", x.stack(20), 5 + 6);
    }

    static void promise08GreatestSum() {
        NeckShip x = made(m -> {
            m.rule(2, 60);
            for (int s = 0; s < 10; s++) {
                m.spar(0, s, 60, 9, 1);
            }
        });
        due("ten of 9 and 60", x.fits(1), 150);
        due("it fits no neck", x.rule(4, 60) + x.fits(0), 20);
    }

    static void promise08SlicesAreRoundedUp() {
        int[][] beamWidthSlices = {{1, 1, 1}, {1, 60, 1}, {60, 1, 60}, {60, 60, 1}, {60, 59, 2}, {59, 60, 1}, {60, 30, 2},
            {60, 29, 3}, {60, 31, 2}, {10, 3, 4}, {9, 3, 3}, {8, 3, 3}, {7, 3, 3}, {6, 3, 2}};
        for (int[] want : beamWidthSlices) {
            NeckShip x = made(m -> {
                m.rule(1, want[0]);
                m.rule(3, want[1]);
            });
            due(want[0] + " by " + want[1], x.fits(2), want[2]);
        }
    }
}
