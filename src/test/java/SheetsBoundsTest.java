/** The boundary cases of promises 19 to 29, and of what the terms say of sheets, telling and faults. */
public final class SheetsBoundsTest extends Bounds {
    private static final int[] NO_SHEETS = {LEAST, -1, 4, 32, GREATEST};
    private static final int[] NO_LANES = {LEAST, -1, 3, GREATEST};

    public static void main(String[] args) {
        runAll(SheetsBoundsTest.class);
    }

    private static Making row(int lane, int... row) {
        return x -> write(x, 1, lane, row);
    }

    private static Making rows(int lane, int[] row, int otherLane, int[] other) {
        return x -> {
            write(x, 1, lane, row);
            write(x, 2, otherLane, other);
        };
    }

    private static int[] ints(int... row) {
        return row;
    }

    private static final Making NOTHING = x -> apart(x, 1);

    // ---- 19 sheet

    static void promise19NoSuchSheetIsUnknown() {
        for (int k : NO_SHEETS) {
            refusedNamingFaults("sheet " + k, row(2, 7), x -> x.sheet(k, 0, 1), UNKNOWN);
        }
        for (int k = 0; k < 4; k++) {
            due("sheet " + k, new NeckShip().sheet(k, 0, 1), 1);
        }
    }

    static void promise19NoSuchLaneIsOutside() {
        for (int lane : NO_LANES) {
            refusedNamingFaults("lane " + lane, row(2, 7), x -> x.sheet(1, lane, 1), OUTSIDE);
        }
    }

    static void promise19LanesFrom0To2() {
        for (int lane = 0; lane < 3; lane++) {
            NeckShip x = new NeckShip();
            due("lane " + lane, x.sheet(0, lane, 1), 1);
            for (int taken = 0; taken < 3; taken++) {
                due("taken as " + taken, x.cell(0, 0, taken), taken == lane ? 0 : LOST);
            }
        }
    }

    static void promise19RowsFrom0To50() {
        for (int lane = 0; lane < 3; lane++) {
            NeckShip x = new NeckShip();
            due("none", x.sheet(0, lane, 0), 1);
            due("it has no cell", x.put(0, 0, 1), INDEX);
            due("one", x.sheet(1, lane, 1), 1);
            due("its cell", x.put(1, 0, 1), 1);
            due("no more", x.put(1, 1, 1), INDEX);
            due("fifty", x.sheet(2, lane, 50), 1);
            due("the last", x.put(2, 49, 1), 1);
            due("no more", x.put(2, 50, 1), INDEX);
        }
    }

    static void promise19NAbove50IsOutside() {
        for (int n : new int[] {51, 256, 65536, GREATEST}) {
            refusedNamingFaults("n " + n, row(2, 7), x -> x.sheet(1, 2, n), OUTSIDE);
        }
    }

    static void promise19NBelow0IsSize() {
        for (int n : new int[] {-1, -256, LEAST + 1, LEAST}) {
            faulted("n " + n, row(2, 7), x -> x.sheet(1, 2, n), SIZE);
            faulted("n " + n + ", of nothing", NOTHING, x -> x.sheet(1, 0, n), SIZE);
        }
    }

    static void promise19UnknownAheadOfOutsideAndSize() {
        refusedNamingFaults("lane", row(2, 7), x -> x.sheet(4, 3, 1), UNKNOWN);
        refusedNamingFaults("n above", row(2, 7), x -> x.sheet(-1, 0, 51), UNKNOWN);
        refusedNamingFaults("n below", row(2, 7), x -> x.sheet(4, 0, -1), UNKNOWN);
    }

    static void promise19OutsideAheadOfSize() {
        refusedNamingFaults("lane above", row(2, 7), x -> x.sheet(1, 3, -1), OUTSIDE);
        refusedNamingFaults("lane below", row(2, 7), x -> x.sheet(1, -1, -1), OUTSIDE);
    }

    static void promise19CellsAre0AtFirst() {
        for (int lane = 0; lane < 3; lane++) {
            NeckShip x = new NeckShip();
            x.sheet(0, lane, 50);
            for (int i = 0; i < 50; i++) {
                due("new", x.cell(0, i, lane), 0);
                x.put(0, i, 7);
            }
            x.sheet(0, lane, 50);
            for (int i = 0; i < 50; i++) {
                due("anew", x.cell(0, i, lane), 0);
            }
        }
    }

    static void promise19AShorterThenALongerRow() {
        NeckShip x = made(row(2, 7, 7, 7));
        due("shorter", x.sheet(1, 2, 1), 1);
        dueRow("shorter", x, 1, 2, 0);
        due("longer", x.sheet(1, 1, 3), 1);
        dueRow("longer", x, 1, 1, 0, 0, 0);
    }

    static void promise19TheOthersStay() {
        NeckShip x = made(rows(2, ints(7, 8), 0, ints(9)));
        due("another", x.sheet(0, 2, 2), 1);
        dueRow("one", x, 1, 2, 7, 8);
        dueRow("two", x, 2, 0, 9);
    }

    static void promise19FaultIs0Then() {
        NeckShip x = new NeckShip();
        x.sheet(0, 0, -1);
        due("SIZE", x.fault(), 4);
        x.sheet(0, 0, 0);
        due("none", x.fault(), 0);
    }

    // ---- 20 lose

    static void promise20NoSuchSheetIsUnknown() {
        for (int k : NO_SHEETS) {
            refused("sheet " + k, row(2, 7), x -> x.lose(k), UNKNOWN);
        }
    }

    static void promise20ItHadNothing() {
        for (int k = 0; k < 4; k++) {
            int of = k;
            refused("sheet " + of, NOTHING, x -> x.lose(of), 0);
        }
    }

    static void promise20AnEmptyRowIsNotNothing() {
        for (int lane = 0; lane < 3; lane++) {
            NeckShip x = made(row(lane));
            due("a row", x.lose(1), 1);
            due("nothing", x.lose(1), 0);
        }
    }

    static void promise20TheLongestRow() {
        NeckShip x = new NeckShip();
        x.sheet(3, 2, 50);
        due("a row", x.lose(3), 1);
        due("nothing", x.put(3, 0, 1), NULL);
        due("nothing", x.lose(3), 0);
    }

    static void promise20NothingOfAnyLane() {
        NeckShip x = made(rows(2, ints(7), 1, ints(8)));
        x.lose(1);
        for (int lane = 0; lane < 3; lane++) {
            due("lost", x.cell(1, 0, lane), LOST);
            due("NULL", x.fault(), 1);
        }
        dueRow("the other", x, 2, 1, 8);
    }

    // ---- 21 put

    static void promise21NoSuchSheetIsUnknown() {
        for (int k : NO_SHEETS) {
            refusedNamingFaults("sheet " + k, row(2, 7), x -> x.put(k, 0, 1), UNKNOWN);
            refusedNamingFaults("sheet " + k + ", no cell", row(2, 7), x -> x.put(k, -1, 1), UNKNOWN);
        }
    }

    static void promise21NothingIsNull() {
        for (int k = 0; k < 4; k++) {
            int of = k;
            faulted("sheet " + of, NOTHING, x -> x.put(of, 0, 1), NULL);
        }
    }

    static void promise21NullAheadOfIndex() {
        faulted("below", NOTHING, x -> x.put(1, -1, 1), NULL);
        faulted("beyond", NOTHING, x -> x.put(1, 50, 1), NULL);
    }

    static void promise21FirstAndLastCell() {
        for (int lane = 0; lane < 3; lane++) {
            NeckShip x = made(row(lane, 1, 2, 3));
            due("first", x.put(1, 0, 7), 1);
            due("last", x.put(1, 2, 9), 1);
            dueRow("lane " + lane, x, 1, lane, 7, 2, 9);
            for (int i : new int[] {LEAST, -1, 3, 49, 50, GREATEST}) {
                faulted("cell " + i, row(lane, 1, 2, 3), m -> m.put(1, i, 7), INDEX);
            }
            faulted("of none", row(lane), m -> m.put(1, 0, 7), INDEX);
        }
    }

    static void promise21TheLongestRow() {
        NeckShip x = new NeckShip();
        x.sheet(0, 1, 50);
        due("49", x.put(0, 49, 7), 1);
        due("50", x.put(0, 50, 7), INDEX);
        due("it is there", x.cell(0, 49, 1), 7);
    }

    private static void dueCut(int lane, int v, int want) {
        NeckShip x = made(row(lane, v));
        dueRow(v + " in lane " + lane, x, 1, lane, want);
    }

    static void promise21BytesAreCut() {
        int[][] cuts = {{127, 127}, {128, -128}, {-128, -128}, {-129, 127}, {255, -1}, {256, 0}, {LEAST, 0}, {GREATEST, -1},
            {-1, -1}, {0, 0}, {32768, 0}, {65408, -128}};
        for (int[] cut : cuts) {
            dueCut(0, cut[0], cut[1]);
        }
    }

    static void promise21ShortsAreCut() {
        int[][] cuts = {{32767, 32767}, {32768, -32768}, {-32768, -32768}, {-32769, 32767}, {65535, -1}, {65536, 0},
            {LEAST, 0}, {GREATEST, -1}, {128, 128}, {-129, -129}};
        for (int[] cut : cuts) {
            dueCut(1, cut[0], cut[1]);
        }
    }

    static void promise21IntsAreNotCut() {
        for (int v : new int[] {LEAST, LEAST + 1, -32769, -129, -1, 0, 128, 255, 32768, 65536, GREATEST - 1, GREATEST}) {
            dueCut(2, v, v);
        }
    }

    static void promise21FaultIs0Then() {
        NeckShip x = made(row(2, 7));
        x.put(1, 1, 1);
        due("INDEX", x.fault(), 3);
        x.put(1, 0, 1);
        due("none", x.fault(), 0);
    }

    // ---- 22 cell

    static void promise22NoSuchSheetIsLost() {
        for (int k : NO_SHEETS) {
            lost("sheet " + k, row(2, 7), x -> x.cell(k, 0, 2), 0);
            lost("sheet " + k + ", all wrong", row(2, 7), x -> x.cell(k, -1, 3), 0);
        }
    }

    static void promise22NoSuchLaneIsLost() {
        for (int lane : NO_LANES) {
            lost("lane " + lane, row(2, 7), x -> x.cell(1, 0, lane), 0);
        }
    }

    static void promise22LaneAheadOfFaults() {
        lost("NULL", NOTHING, x -> x.cell(1, 0, 3), 0);
        lost("INDEX", row(2, 7), x -> x.cell(1, 1, -1), 0);
    }

    static void promise22AnotherLaneIsCast() {
        for (int lane = 0; lane < 3; lane++) {
            for (int as = 0; as < 3; as++) {
                int taken = as;
                if (taken != lane) {
                    lost(lane + " as " + taken, row(lane, 7), x -> x.cell(1, 0, taken), 2);
                    lost(lane + " as " + taken + ", empty", row(lane), x -> x.cell(1, 0, taken), 2);
                }
            }
        }
    }

    static void promise22CastAheadOfIndex() {
        lost("below", row(1, 7), x -> x.cell(1, -1, 2), 2);
        lost("beyond", row(1, 7), x -> x.cell(1, 1, 0), 2);
    }

    static void promise22NothingIsNoCast() {
        for (int lane = 0; lane < 3; lane++) {
            int taken = lane;
            lost("never a row", NOTHING, x -> x.cell(1, 0, taken), 1);
            lost("a row lost", x -> {
                write(x, 1, 1, 7);
                x.lose(1);
            }, x -> x.cell(1, 0, taken), 1);
        }
    }

    static void promise22NullAheadOfIndex() {
        lost("below", NOTHING, x -> x.cell(1, -1, 2), 1);
        lost("beyond", NOTHING, x -> x.cell(1, 50, 2), 1);
    }

    static void promise22FirstAndLastCell() {
        for (int lane = 0; lane < 3; lane++) {
            int of = lane;
            NeckShip x = made(row(lane, 7, 8, 9));
            due("first", x.cell(1, 0, lane), 7);
            due("last", x.cell(1, 2, lane), 9);
            due("no fault", x.fault(), 0);
            for (int i : new int[] {LEAST, -1, 3, 49, 50, GREATEST}) {
                lost("cell " + i, row(lane, 7, 8, 9), m -> m.cell(1, i, of), 3);
            }
            lost("of none", row(lane), m -> m.cell(1, 0, of), 3);
        }
    }

    static void promise22TheLongestRow() {
        NeckShip x = new NeckShip();
        x.sheet(0, 2, 50);
        x.put(0, 49, GREATEST);
        due("49", x.cell(0, 49, 2), GREATEST);
        due("50", x.cell(0, 50, 2), LOST);
    }

    static void promise22LeastIntIsNotLost() {
        NeckShip x = made(row(2, LEAST));
        due("as a long", x.cell(1, 0, 2), LEAST);
        due("no fault", x.fault(), 0);
    }

    // ---- 23 copy

    static void promise23NoSuchSheetIsUnknown() {
        for (int k : NO_SHEETS) {
            refusedNamingFaults("first " + k, row(2, 7), x -> x.copy(k, 0, 1, 0, 1), UNKNOWN);
            refusedNamingFaults("other " + k, row(2, 7), x -> x.copy(1, 0, k, 0, 1), UNKNOWN);
            refusedNamingFaults("both " + k, row(2, 7), x -> x.copy(k, 0, k, 0, 1), UNKNOWN);
        }
    }

    static void promise23UnknownAheadOfFaults() {
        refusedNamingFaults("the first has nothing", NOTHING, x -> x.copy(0, 0, 4, 0, 1), UNKNOWN);
        refusedNamingFaults("the other has nothing", NOTHING, x -> x.copy(-1, 0, 0, 0, 1), UNKNOWN);
        refusedNamingFaults("no cells", row(2, 7), x -> x.copy(1, -1, 4, -1, -1), UNKNOWN);
    }

    static void promise23NothingIsNull() {
        faulted("the first", row(2, 7), x -> x.copy(0, 0, 1, 0, 1), NULL);
        faulted("the other", row(2, 7), x -> x.copy(1, 0, 0, 0, 1), NULL);
        faulted("both", NOTHING, x -> x.copy(0, 0, 1, 0, 1), NULL);
        faulted("one itself", NOTHING, x -> x.copy(2, 0, 2, 0, 0), NULL);
        faulted("none to copy", row(2, 7), x -> x.copy(1, 0, 0, 0, 0), NULL);
    }

    static void promise23NullAheadOfIndex() {
        faulted("the first", row(2, 7), x -> x.copy(0, -1, 1, -1, -1), NULL);
        faulted("the other", row(2, 7), x -> x.copy(1, 2, 0, 2, 2), NULL);
    }

    static void promise23UnlikeLanesAreCast() {
        for (int lane = 0; lane < 3; lane++) {
            for (int other = 0; other < 3; other++) {
                if (other != lane) {
                    Making both = rows(lane, ints(7), other, ints(8));
                    faulted(lane + " to " + other, both, x -> x.copy(1, 0, 2, 0, 1), CAST);
                    faulted(lane + " to " + other + ", none", both, x -> x.copy(1, 0, 2, 0, 0), CAST);
                    faulted("empty", rows(lane, ints(), other, ints()), x -> x.copy(1, 0, 2, 0, 0), CAST);
                }
            }
        }
    }

    static void promise23CastAheadOfIndex() {
        Making both = rows(0, ints(7), 1, ints(8));
        faulted("i", both, x -> x.copy(1, -1, 2, 0, 1), CAST);
        faulted("j", both, x -> x.copy(1, 0, 2, 2, 1), CAST);
        faulted("n", both, x -> x.copy(1, 0, 2, 0, -1), CAST);
    }

    private static final Making THREE_AND_FOUR = rows(2, ints(1, 2, 3), 2, ints(4, 5, 6, 7));

    static void promise23BelowIsIndex() {
        for (int v : new int[] {-1, -2, LEAST + 1, LEAST}) {
            faulted("i " + v, THREE_AND_FOUR, x -> x.copy(1, v, 2, 0, 1), INDEX);
            faulted("j " + v, THREE_AND_FOUR, x -> x.copy(1, 0, 2, v, 1), INDEX);
            faulted("n " + v, THREE_AND_FOUR, x -> x.copy(1, 1, 2, 1, v), INDEX);
            faulted("i " + v + ", none", THREE_AND_FOUR, x -> x.copy(1, v, 2, 0, 0), INDEX);
            faulted("j " + v + ", none", THREE_AND_FOUR, x -> x.copy(1, 0, 2, v, 0), INDEX);
            faulted("all " + v, THREE_AND_FOUR, x -> x.copy(1, v, 2, v, v), INDEX);
        }
    }

    static void promise23BeyondTheFirstIsIndex() {
        faulted("4 of 3", THREE_AND_FOUR, x -> x.copy(1, 0, 2, 0, 4), INDEX);
        faulted("3 from 1", THREE_AND_FOUR, x -> x.copy(1, 1, 2, 0, 3), INDEX);
        faulted("1 from 3", THREE_AND_FOUR, x -> x.copy(1, 3, 2, 0, 1), INDEX);
        faulted("none from 4", THREE_AND_FOUR, x -> x.copy(1, 4, 2, 0, 0), INDEX);
        due("none from 3", made(THREE_AND_FOUR).copy(1, 3, 2, 0, 0), 0);
        due("all", made(THREE_AND_FOUR).copy(1, 0, 2, 0, 3), 3);
        due("the last", made(THREE_AND_FOUR).copy(1, 2, 2, 0, 1), 1);
    }

    static void promise23BeyondTheOtherIsIndex() {
        faulted("3 to 2", THREE_AND_FOUR, x -> x.copy(1, 0, 2, 2, 3), INDEX);
        faulted("1 to 4", THREE_AND_FOUR, x -> x.copy(1, 0, 2, 4, 1), INDEX);
        faulted("none to 5", THREE_AND_FOUR, x -> x.copy(1, 0, 2, 5, 0), INDEX);
        faulted("4 of 4 to 3", THREE_AND_FOUR, x -> x.copy(2, 0, 1, 0, 4), INDEX);
        due("none to 4", made(THREE_AND_FOUR).copy(1, 0, 2, 4, 0), 0);
        due("3 to 1", made(THREE_AND_FOUR).copy(1, 0, 2, 1, 3), 3);
        due("to the last", made(THREE_AND_FOUR).copy(1, 0, 2, 3, 1), 1);
    }

    static void promise23SumsPastAnIntsEndAreIndex() {
        faulted("i and n", THREE_AND_FOUR, x -> x.copy(1, 1, 2, 0, GREATEST), INDEX);
        faulted("j and n", THREE_AND_FOUR, x -> x.copy(1, 0, 2, 1, GREATEST), INDEX);
        faulted("n and i", THREE_AND_FOUR, x -> x.copy(1, GREATEST, 2, 0, 1), INDEX);
        faulted("n and j", THREE_AND_FOUR, x -> x.copy(1, 0, 2, GREATEST, 1), INDEX);
        faulted("n alone", THREE_AND_FOUR, x -> x.copy(1, 0, 2, 0, GREATEST), INDEX);
        faulted("all", THREE_AND_FOUR, x -> x.copy(1, GREATEST, 2, GREATEST, GREATEST), INDEX);
        faulted("to 0", THREE_AND_FOUR, x -> x.copy(1, GREATEST - 1, 2, GREATEST - 1, 2), INDEX);
        faulted("from least", THREE_AND_FOUR, x -> x.copy(1, LEAST, 2, LEAST, LEAST), INDEX);
    }

    static void promise23EmptyRows() {
        Making empty = rows(1, ints(), 1, ints());
        due("none", made(empty).copy(1, 0, 2, 0, 0), 0);
        faulted("one", empty, x -> x.copy(1, 0, 2, 0, 1), INDEX);
        faulted("none from 1", empty, x -> x.copy(1, 1, 2, 0, 0), INDEX);
        faulted("none to 1", empty, x -> x.copy(1, 0, 2, 1, 0), INDEX);
    }

    static void promise23WhatIsCopiedAndWhatStays() {
        NeckShip x = made(THREE_AND_FOUR);
        due("two", x.copy(1, 1, 2, 1, 2), 2);
        due("no fault", x.fault(), 0);
        dueRow("the first stays", x, 1, 2, 1, 2, 3);
        dueRow("the other", x, 2, 2, 4, 2, 3, 7);
        x.put(1, 1, 9);
        dueRow("each has its own", x, 2, 2, 4, 2, 3, 7);
    }

    static void promise23NoneChangesNothing() {
        NeckShip x = made(THREE_AND_FOUR);
        due("none", x.copy(1, 0, 2, 0, 0), 0);
        dueRow("the first", x, 1, 2, 1, 2, 3);
        dueRow("the other", x, 2, 2, 4, 5, 6, 7);
    }

    static void promise23TheSameAsTheyWere() {
        NeckShip up = made(row(2, 1, 2, 3, 4, 5));
        due("up", up.copy(1, 0, 1, 1, 4), 4);
        dueRow("up", up, 1, 2, 1, 1, 2, 3, 4);
        NeckShip down = made(row(2, 1, 2, 3, 4, 5));
        due("down", down.copy(1, 1, 1, 0, 4), 4);
        dueRow("down", down, 1, 2, 2, 3, 4, 5, 5);
        NeckShip onto = made(row(2, 1, 2, 3));
        due("onto itself", onto.copy(1, 0, 1, 0, 3), 3);
        dueRow("onto itself", onto, 1, 2, 1, 2, 3);
        faulted("beyond", row(2, 1, 2, 3), x -> x.copy(1, 0, 1, 1, 3), INDEX);
    }

    static void promise23TheLongestRow() {
        NeckShip x = new NeckShip();
        x.sheet(0, 2, 50);
        x.sheet(3, 2, 50);
        for (int i = 0; i < 50; i++) {
            x.put(0, i, LEAST + i);
        }
        due("fifty", x.copy(0, 0, 3, 0, 50), 50);
        for (int i = 0; i < 50; i++) {
            due("cell " + i, x.cell(3, i, 2), LEAST + i);
        }
        due("one more", x.copy(0, 0, 3, 0, 51), INDEX);
        due("one farther", x.copy(0, 1, 3, 0, 50), INDEX);
    }

    // ---- 24 tell, 25 name, 26 as

    /** Spar s is of kind s. */
    private static void threeKinds(NeckShip x) {
        x.spar(0, 10, 7, 2, -1);
        x.spar(1, 20, 8, 3, -1);
        x.spar(2, 30, 9, 4, -1);
    }

    private static final int[] NO_SPARS_OF_3 = {LEAST, -32, -1, 3, 10, 32, GREATEST};

    static void promise24NoSuchSparIsUnknown() {
        refused("no spars", x -> x.rule(0, 50), x -> x.tell(0), UNKNOWN);
        for (int s : NO_SPARS_OF_3) {
            refused("spar " + s, SheetsBoundsTest::threeKinds, x -> x.tell(s), UNKNOWN);
        }
        refused("10 of a full ship", x -> apart(x, 10), x -> x.tell(10), UNKNOWN);
    }

    static void promise24EachKindAtItsEnds() {
        int[][] sparTold = {{0, 50, 1, -1, 1}, {0, 50, 60, -1, 60}, {1, 0, 1, -1, 1}, {1, 50, 60, 1, 110}, {2, 50, 1, 1, 1},
            {2, 50, 60, -1, -60}, {2, 50, 60, 1, 60}, {2, 0, 1, -1, -1}};
        int[] bodies = {1, 2 * 31 + 1, 3 * 31 + 1};
        for (int[] s : sparTold) {
            NeckShip x = made(m -> m.spar(s[0], s[1], s[2], 9, s[3]));
            due("kind " + s[0] + " of " + s[2], x.tell(0), s[4]);
            due("its bodies", x.trace(), bodies[s[0]]);
        }
    }

    static void promise25NoSuchSparIsUnknown() {
        refused("no spars", x -> x.rule(0, 50), x -> x.name(0), UNKNOWN);
        for (int s : NO_SPARS_OF_3) {
            refused("spar " + s, SheetsBoundsTest::threeKinds, x -> x.name(s), UNKNOWN);
        }
        refused("10 of a full ship", x -> apart(x, 10), x -> x.name(10), UNKNOWN);
    }

    static void promise25FirstAndLastNumberLeastAndGreatestThick() {
        for (int kind = 0; kind < 3; kind++) {
            int of = kind;
            for (int thick = 1; thick <= 9; thick += 8) {
                int thickOf = thick;
                NeckShip x = made(m -> {
                    for (int s = 0; s < 10; s++) {
                        m.spar(of, 0, 1, thickOf, 1);
                    }
                });
                due("the first", x.name(0), of == 2 ? 40 : 10 * thick);
                due("its body", x.trace(), of == 2 ? 5 : 4);
                due("the last", x.name(9), of == 2 ? 40 : 9 + 10 * thick);
            }
        }
    }

    static void promise26NoSuchSparIsUnknown() {
        refusedNamingFaults("no spars", x -> x.rule(0, 50), x -> x.as(0, 0), UNKNOWN);
        for (int s : NO_SPARS_OF_3) {
            refusedNamingFaults("spar " + s, SheetsBoundsTest::threeKinds, x -> x.as(s, 0), UNKNOWN);
        }
    }

    static void promise26NoSuchKindIsOutside() {
        for (int kind : new int[] {LEAST, -1, 3, GREATEST}) {
            for (int s = 0; s < 3; s++) {
                int of = s;
                refusedNamingFaults(of + " as " + kind, SheetsBoundsTest::threeKinds, x -> x.as(of, kind), OUTSIDE);
            }
        }
    }

    static void promise26UnknownAheadOfOutside() {
        refusedNamingFaults("3 and 3", SheetsBoundsTest::threeKinds, x -> x.as(3, 3), UNKNOWN);
        refusedNamingFaults("-1 and -1", SheetsBoundsTest::threeKinds, x -> x.as(-1, -1), UNKNOWN);
    }

    static void promise26ItIsNoneIsCast() {
        faulted("a spar as a mast", SheetsBoundsTest::threeKinds, x -> x.as(0, 1), CAST);
        faulted("a spar as a bowsprit", SheetsBoundsTest::threeKinds, x -> x.as(0, 2), CAST);
        faulted("a mast as a bowsprit", SheetsBoundsTest::threeKinds, x -> x.as(1, 2), CAST);
    }

    static void promise26EachIsASparABowspritIsAMast() {
        for (int s = 0; s < 3; s++) {
            for (int kind = 0; kind <= s; kind++) {
                NeckShip x = made(SheetsBoundsTest::threeKinds);
                x.sheet(0, 0, -1);
                due(s + " as " + kind, x.as(s, kind), 1);
                due("no fault", x.fault(), 0);
                due("no body", x.trace(), 0);
            }
        }
    }

    // ---- 27 trace

    static void promise27WrapsPastAnIntsEnd() {
        NeckShip x = made(SheetsBoundsTest::threeKinds);
        long exact = 0;
        boolean wrapped = false;
        boolean below = false;
        for (int n = 0; n < 200; n++) {
            x.name(2);
            exact = 31L * (int) exact + 5;
            wrapped |= exact > GREATEST || exact < LEAST;
            due("trace", x.trace(), (int) exact);
            below |= x.trace() < 0;
        }
        due("it wrapped and went below 0", wrapped && below ? 1 : 0, 1);
    }

    static void promise27TheFirstThatWraps() {
        NeckShip x = made(SheetsBoundsTest::threeKinds);
        for (int n = 0; n < 6; n++) {
            x.name(0);
        }
        due("six bodies", x.trace(), 118333824);
        x.name(0);
        due("seven bodies: 3668348548 less 2 to the 32", x.trace(), -626618748);
    }

    static void promise27EachBodyAsItBegins() {
        NeckShip x = made(SheetsBoundsTest::threeKinds);
        x.tell(1);
        due("mast, spar", x.trace(), 63);
        x.tell(2);
        due("bowsprit, spar", x.trace(), (63 * 31 + 3) * 31 + 1);
    }

    static void promise27IsNotChangedByAsking() {
        NeckShip x = made(SheetsBoundsTest::threeKinds);
        x.name(0);
        due("trace", x.trace(), 4);
        due("trace again", x.trace(), 4);
        x.about(0, 0);
        x.as(1, 1);
        x.told(0);
        due("trace still", x.trace(), 4);
    }

    // ---- 28 fault

    static void promise28AheadOfAnyIs0() {
        NeckShip x = new NeckShip();
        due("new", x.fault(), 0);
        x.spar(9, 9, 9, 9, 9);
        x.about(0, 0);
        x.lose(9);
        due("no call has named one", x.fault(), 0);
    }

    static void promise28CallsThatNameNoneLeaveIt() {
        Making[] steps = {x -> x.rule(0, 60), x -> x.rule(9, 1), x -> x.spar(0, 0, 1, 1, 1), x -> x.spar(9, 0, 0, 0, 0),
            x -> x.about(0, 0), x -> x.about(99, 0), x -> x.over(0, 0), x -> x.over(0, 99), x -> x.stack(0), x -> x.stack(201),
            x -> x.fits(0), x -> x.fits(9), x -> x.thread(0, 0, 1), x -> x.thread(0, 99, 1), x -> x.cut(0), x -> x.cut(99),
            x -> x.threaded(0, 0), x -> x.threaded(99, 0), x -> x.cross(0, 0), x -> x.cross(99, 0), x -> x.raise(1),
            x -> x.raise(99), x -> x.lay(0), x -> x.lay(99), NeckShip::settle, x -> x.order(0), x -> x.order(99),
            x -> x.rising(0), x -> x.rising(9), NeckShip::rig, x -> x.lose(0), x -> x.lose(1), x -> x.lose(99), x -> x.tell(0),
            x -> x.tell(99), x -> x.name(0), x -> x.name(99), NeckShip::trace, NeckShip::fault, x -> x.told(0), x -> x.told(9)};
        for (int n = 0; n < steps.length; n++) {
            NeckShip x = made(m -> {
                apart(m, 2);
                write(m, 1, 2, 7);
            });
            x.put(1, 1, 1);
            steps[n].on(x);
            due("step " + n, x.fault(), 3);
        }
    }

    static void promise28CallsThatNameSomeSetItTo0() {
        Making[] steps = {x -> x.plan(1, 2, 0, 0), x -> x.plan(9, 2, 0, 0), x -> x.plan(1, 9, 0, 0), x -> x.sheet(1, 2, 0),
            x -> x.sheet(9, 2, 0), x -> x.sheet(1, 9, 0), x -> x.sheet(1, 2, 51), x -> x.put(1, 0, 1), x -> x.put(9, 0, 1),
            x -> x.cell(1, 0, 2), x -> x.cell(9, 0, 2), x -> x.cell(1, 0, 9), x -> x.copy(1, 0, 1, 0, 1),
            x -> x.copy(9, 0, 1, 0, 1), x -> x.copy(1, 0, 9, 0, 1), x -> x.as(0, 0), x -> x.as(9, 0), x -> x.as(0, 9)};
        for (int n = 0; n < steps.length; n++) {
            NeckShip x = made(m -> {
                apart(m, 2);
                write(m, 1, 2, 7);
            });
            x.put(1, 1, 1);
            due("a fault is left", x.fault(), 3);
            steps[n].on(x);
            due("step " + n, x.fault(), 0);
        }
    }

    static void promise28EachFaultByItsNumber() {
        NeckShip x = made(m -> {
            apart(m, 1);
            write(m, 1, 2, 7);
        });
        due("NULL", x.put(0, 0, 1), -11);
        due("1", x.fault(), 1);
        due("CAST", x.as(0, 1), -12);
        due("2", x.fault(), 2);
        due("INDEX", x.put(1, 1, 1), -13);
        due("3", x.fault(), 3);
        due("SIZE", x.sheet(1, 0, -1), -14);
        due("4", x.fault(), 4);
        due("4 still", x.fault(), 4);
    }

    static void promise28PlanRefusedAsSpar() {
        NeckShip x = made(m -> {
            apart(m, 10);
            write(m, 1, 2, 0, 51, 1, 1, 1, 0, 0, 1, 1, 1);
        });
        x.put(1, 99, 1);
        due("OUTSIDE", x.plan(1, 2, 0, 1), OUTSIDE);
        due("refused", x.fault(), 0);
        x.put(1, 99, 1);
        due("FULL", x.plan(1, 2, 5, 1), FULL);
        due("refused", x.fault(), 0);
    }

    // ---- 29 told

    static void promise29NoSuchQuestionIsOutside() {
        for (int what : new int[] {LEAST, -1, 6, GREATEST}) {
            refused("what " + what, x -> apart(x, 3), x -> x.told(what), OUTSIDE);
        }
    }

    static void promise29NoneOfAll() {
        NeckShip x = new NeckShip();
        for (int what = 0; what < 6; what++) {
            due("told(" + what + ")", x.told(what), 0);
        }
    }

    static void promise29AllOfAll() {
        NeckShip x = made(m -> {
            for (int s = 0; s < 10; s++) {
                m.spar(0, 10, 60, 1, 1);
            }
            for (int t = 0; t < 16; t++) {
                m.thread(0, t % 10, 60);
            }
            for (int s = 9; s >= 0; s--) {
                m.raise(s);
            }
        });
        int[] want = {10, 16, 10, 10, 16, 120};
        for (int what = 0; what < 6; what++) {
            due("told(" + what + ")", x.told(what), want[what]);
        }
        for (int t = 0; t < 16; t++) {
            x.cut(t);
        }
        int[] cut = {10, 16, 10, 0, 0, 0};
        for (int what = 0; what < 6; what++) {
            due("all cut, told(" + what + ")", x.told(what), cut[what]);
        }
    }

    static void promise29PairsOfWholeOnes() {
        NeckShip x = made(m -> {
            m.spar(0, 10, 60, 1, 1);
            m.thread(0, 0, 30);
        });
        due("one alone", x.told(5), 0);
        x.thread(0, 0, 30);
        due("a pair", x.told(5), 1);
        x.thread(0, 0, 30);
        due("three pairs", x.told(5), 3);
        x.cut(1);
        due("a pair", x.told(5), 1);
        x.cut(0);
        due("one alone is whole", x.told(5), 0);
    }

    static void promise29HeldAreUpAndRaised() {
        NeckShip x = made(m -> apart(m, 3));
        due("all lie", x.told(3), 0);
        x.raise(0);
        x.raise(1);
        due("two", x.told(3), 2);
        x.cut(0);
        due("one", x.told(3), 1);
        due("up", x.told(2), 2);
        x.settle();
        due("one is up", x.told(2), 1);
        due("it is held", x.told(3), 1);
    }
}
