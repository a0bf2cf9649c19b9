/** Part WAY, sentence by sentence. */
public final class WaySentencesTest {
    private static final int[] DX = {1, 2, 1, 1, 0, -1, -1, -2, -1, -2, -1, -1, 0, 1, 1, 2};
    private static final int[] DY = {0, 1, 1, 2, 1, 2, 1, 1, 0, -1, -1, -2, -1, -2, -1, -1};
    private static final int[] LENGTH = {10, 22, 14, 22, 10, 22, 14, 22, 10, 22, 14, 22, 10, 22, 14, 22};

    /** A grid in which all cells are barred but those told by their numbers. */
    private static RoadHouse only(int... open) {
        RoadHouse x = new RoadHouse();
        for (int cell = 0; cell < 144; cell++) {
            boolean is = false;
            for (int o : open) {
                is |= o == cell;
            }
            if (!is) {
                x.act(1, cell % 12, cell / 12, 0, 0, 0);
            }
        }
        return x;
    }

    /**
     * From (2, 2) to (1, 0) over bridged cells (1, 2) and (1, 1): the way has to go by (1, 3) to (1, 4) and to turn
     * about there, so that it comes to the bridges straight on.
     */
    private static RoadHouse turnAbout(int mostOfFirst, int mostOfSecond) {
        RoadHouse x = only(26, 12 + 24, 37, 49, 1);
        x.act(1, 0, 3, 0, 0, 0);
        x.act(12, 1, 2, mostOfFirst, 0, 0);
        x.act(12, 1, 1, mostOfSecond, 0, 0);
        return x;
    }

    /** Three cells in a row, the middle one at a cost. */
    private static RoadHouse three(int cost) {
        RoadHouse x = only(0, 1, 2);
        x.act(0, 1, 0, cost, 0, 0);
        return x;
    }

    /**
     * From (0, 1) to (2, 1) by (1, 0) at no cost, or by (1, 2) at 3 a unit; and a way in from behind. Closed are, of no cost,
     * eight labels of the end, of (1, 0), (1, 2), (3, 1), then two of (0, 1). Without (1, 0) there come eight of (4, 1) before
     * these two.
     */
    private static RoadHouse detour() {
        return Script.then(only(12, 1, 25, 14, 15, 16), "0(1,2,3,0)=1 0(3,1,1,0)=1");
    }

    @Says({"Costs, levels, values are 0; REACH 1, SLOPE 9,999, TURN 8", "WEIGHT, a fraction (0 / 1)"})
    static void atFirst() {
        Script.on("5(0,0,2,1,100000)=2 7(0)=0 7(1)=1 2(2,9999,8)=1 5(0,0,2,1,100000)=1");
        Script.on("0(1,0,0,9999)=1 0(1,1,0,9999)=1 0(0,1,0,9999)=1 5(0,0,5,5,100000)=5 2(1,9998,8)=1 5(0,0,5,5,100000)=-1");
        Script.on("0(1,0,1,0)=1 3(0,1,0,9)=1 3(1,1,0,9)=1 3(2,1,0,9)=1 3(3,1,0,9)=1 5(0,0,1,0,9999)=1 7(0)=10 7(1)=1");
        Script.then(turnAbout(1, 2), "5(2,2,1,0,100000)=6 2(1,9999,7)=1 5(2,2,1,0,100000)=-1 2(1,0,8)=1 5(2,2,1,0,100000)=6");
    }

    @Says({"0: False: none such.", "CELLS are x from 0 to w - 1, y from 0 to h - 1", "A cell has a COST 0 .. 999, a LEVEL 0 .. 9,999"})
    static void cell() {
        Script.on("0(-1,0,0,0)=0 0(12,0,0,0)=0 0(0,-1,0,0)=0 0(0,12,0,0)=0 0(0,0,-1,0)=0 0(0,0,1000,0)=0 0(0,0,0,-1)=0 0(0,0,0,10000)=0"
            + " 0(0,0,0,0)=1 0(11,0,0,0)=1 0(0,11,999,9999)=1 0(MIN,0,0,0)=0 0(0,MAX,0,0)=0");
        Script.then(three(7), "0(1,0,1000,0)=0 0(1,0,3,10000)=0 0(13,-1,9,0)=0 5(0,0,2,0,100000)=2 7(0)=70 0(1,0,999,0)=1 7(0)=9990");
    }

    @Says("1: False: none such, or it was.")
    static void bar() {
        Script.on("1(-1,0)=0 1(12,0)=0 1(0,-1)=0 1(0,12)=0 1(0,0)=1 1(0,0)=0 1(11,11)=1 1(11,11)=0 1(11,0)=1 1(0,11)=1 1(12,MIN)=0 1(1,0)=1");
    }

    @Says({"2: REACH (1, 2), SLOPE (0 .. 9,999), TURN (0 .. 8).", "2: False: none such."})
    static void moves() {
        Script.on("2(0,0,0)=0 2(3,0,0)=0 2(1,-1,0)=0 2(1,10000,0)=0 2(1,0,-1)=0 2(1,0,9)=0 2(1,0,0)=1 2(2,9999,8)=1 2(MIN,5,5)=0");
        // what is refused changes nothing, not one of the three
        Script.on("2(3,0,0)=0 2(2,10000,0)=0 2(2,0,9)=0 0(1,1,0,1)=1 5(0,0,2,1,99999)=2 5(0,0,1,1,99)=1");
    }

    @Says({"3: False: none such.", "AIMS are 0 .. 3, each with a VALUE 0 .. 999 in each cell (0)"})
    static void aim() {
        Script.on("3(-1,0,0,0)=0 3(4,0,0,0)=0 3(0,-1,0,0)=0 3(0,12,0,0)=0 3(0,0,-1,0)=0 3(0,0,12,0)=0 3(0,0,0,-1)=0 3(0,0,0,1000)=0"
            + " 3(0,0,0,0)=1 3(3,11,11,999)=1 3(0,11,0,999)=1");
        Script.then(three(0), "4(2,1,1)=1 3(2,1,0,5)=1 3(2,1,0,1000)=0 3(4,1,0,6)=0 5(0,0,2,0,99)=2 7(0)=50 3(2,1,0,999)=1 7(0)=9990");
    }

    @Says({"4: An aim's weight: above 0 .. 20 by below 1 .. 6.", "4: False: none such."})
    static void weight() {
        Script.on("4(-1,1,1)=0 4(4,1,1)=0 4(0,-1,1)=0 4(0,21,1)=0 4(0,1,0)=0 4(0,1,7)=0 4(0,1,-1)=0 4(0,0,1)=1 4(3,20,6)=1 4(0,20,1)=1 4(0,0,6)=1");
        Script.then(three(0), "3(0,1,0,1)=1 4(0,5,6)=1 4(0,21,6)=0 4(0,5,7)=0 5(0,0,2,0,99)=2 7(0)=25 7(1)=3");
    }

    @Says({"5: closing at most so many labels (1 .. 100,000; the one of the first cell with heading 16 counts, too): its moves.",
        "5: SPENT: so many were closed, and it is not known.", "the end has a label for each heading of REACH, of cost 0"})
    static void labels() {
        // the end's eight; the middle's eight; the first cell's with heading 0, then its one with heading 16
        Script.then(three(7), "5(0,0,2,0,0)=-3 5(0,0,2,0,-1)=-3 5(0,0,2,0,100001)=-3 5(0,0,2,0,1)=-2 8()=0 5(0,0,2,0,8)=-2 8()=0 5(0,0,2,0,16)=-2 8()=0"
            + " 5(0,0,2,0,17)=-2 8()=70 9()=0 16()=-1 5(0,0,2,0,18)=2 8()=70 9()=1 5(0,0,2,0,100000)=2");
        // with REACH 2 the end has sixteen, and so has the middle
        Script.then(three(7), "2(2,0,8)=1 5(0,0,2,0,32)=-2 8()=0 5(0,0,2,0,33)=-2 8()=70 5(0,0,2,0,34)=2");
        // nothing leads to the end: there are its eight labels alone
        Script.then(only(0, 5), "5(0,0,5,0,7)=-2 9()=0 5(0,0,5,0,9)=-1 9()=1");
    }

    @Says("A LABEL is a cell; a heading of REACH by which it was come to (for the first cell also 16, none); a number R, for a bridged cell 1 .. its MOST, for others 0")
    static void bridgeLabels() {
        // the end's eight; the bridge's, straight on, one for each R; the first cell's, straight on and without heading
        for (int most = 1; most <= 3; most++) {
            Script.then(only(0, 2), "12(1,0," + most + ",7)=1 5(0,0,2,0," + (9 + most) + ")=-2 8()=70 5(0,0,2,0," + (7 + most) + ")=-2 8()=0 5(0,0,2,0," + (10 + most) + ")=2 7(0)=70");
        }
    }

    @Says({"5: - 1: there is none.", "no cell that is barred and not bridged"})
    static void none() {
        Script.then(three(7), "5(0,0,2,0,99)=2 1(1,0)=1 5(0,0,2,0,99)=-1 16()=-1 6(0,0)=-1 12(1,0,1,2)=1 5(0,0,2,0,99)=2 7(0)=20");
    }

    @Says({"5: - 3: none such cells, nodes, or an end is barred, or both are one (nothing is changed then).", "Its ends are not barred, and not the same."})
    static void refusedRun() {
        Script.then(three(7), "5(0,0,2,0,99)=2 5(-1,0,2,0,99)=-3 5(0,-1,2,0,99)=-3 5(0,0,12,0,99)=-3 5(0,0,2,12,99)=-3 5(0,12,2,0,99)=-3 5(12,0,2,0,99)=-3 5(0,0,-1,0,99)=-3"
            + " 5(0,0,2,-1,99)=-3 5(1,0,1,0,99)=-3 5(0,0,5,5,99)=-3 5(5,5,0,0,99)=-3 5(2,0,0,0,0)=-3 5(2,0,0,0,100001)=-3 8()=70 9()=1 16()=0 6(0,0)=0 6(2,0)=2 10(1,1)=2"
            + " 12(5,5,3,0)=1 5(0,0,5,5,99)=-3 16()=0");
        // a run that is refused leaves the nodes for unlike() as they were
        Script.then(detour(), "5(0,1,2,1,42)=2 5(0,1,0,1,41)=-3 10(0,1)=2 5(0,1,2,1,41)=2 5(0,1,0,1,42)=-3 10(0,1)=-2");
    }

    @Says("5: It is the way AT HAND then, and the only one that is FOUND; else there is none.")
    static void atHand() {
        Script.then(three(7), "5(0,0,2,0,99)=2 5*10(1,1)=2 10(1,1)=-3 5(1,0,2,0,99)=1 6(0,0)=1 6(1,0)=2 6(2,0)=-1 5*10(0,1)=1 10(0,1)=-3"
            + " 5(0,0,2,0,3)=-2 16()=-1 10(1,1)=-3 7(0)=-1 5(0,0,2,0,99)=2 2(1,0,8)=1 0(1,0,0,1)=1 5(0,0,2,0,99)=-1 16()=-1 17()=0 10(1,1)=-3");
    }

    @Says({"HEADINGS 0 .. 15: 0 (1, 0), 1 (2, 1), 2 (1, 1), 3 (1, 2), 4 (0, 1), 5 (-1, 2), 6 (-1, 1), 7 (-2, 1), and 8 to 15 as 0 to 7 with both signs turned.", "6: 2 the heading by which it is come to (16 at first).", "6: BAD: none such."})
    static void at() {
        Script.on("6(0,0)=-1 5(3,4,5,4,99)=2 6(-1,0)=-1 6(3,0)=-1 6(0,-1)=-1 6(0,3)=-1 6(0,0)=3 6(0,1)=4 6(0,2)=16 6(2,0)=5 6(2,1)=4 6(2,2)=0 6(MAX,0)=-1 6(MIN,0)=-1");
        RoadHouse x = Script.on("2(2,9999,8)=1");
        for (int h = 0; h < 16; h++) {
            Script.then(x, "5(5,5," + (5 + DX[h]) + "," + (5 + DY[h]) + ",9999)=1 6(1,2)=" + h + " 6(1,0)=" + (5 + DX[h]) + " 6(1,1)=" + (5 + DY[h]));
        }
    }

    @Says({"7: with what costs are now, a fraction in least terms", "7: BAD: none such."})
    static void cost() {
        Script.then(three(7), "7(0)=-1 7(1)=-1 5(0,0,2,0,99)=2 7(-1)=-1 7(2)=-1 7(0)=70 7(1)=1 0(1,0,0,0)=1 7(0)=0 7(1)=1 3(1,1,0,1)=1 4(1,1,6)=1 7(0)=5 7(1)=3"
            + " 4(0,1,4)=1 3(0,1,0,3)=1 7(0)=55 7(1)=6");
    }

    @Says({"8: Of the last run() or unlike() that was not refused", "8: cut off to a whole number; - 1, if none was closed, or there was no such call."})
    static void bound() {
        Script.then(three(7), "8()=-1 5(0,0,0,0,9)=-3 8()=-1 10(1,1)=-3 8()=-1 4(0,1,6)=1 3(0,1,0,1)=1 5(0,0,2,0,99)=2 8()=71 5(0,0,2,0,0)=-3 8()=71 7(0)=215 7(1)=3"
            + " 10(2,1)=-3 8()=71 0(1,0,6,0)=1 8()=71 10(1,1)=2 8()=61 10(0,1)=-1 8()=0");
    }

    @Says("9: Whether the last run() or unlike() that was not refused told a way, or that there is none.")
    static void proved() {
        Script.then(three(7), "9()=0 5(0,0,0,0,9)=-3 9()=0 5(0,0,2,0,9)=-2 9()=0 5(0,0,2,0,18)=2 9()=1 5(0,0,2,0,0)=-3 9()=1 10(5,4)=-3 9()=1"
            + " 5(0,0,2,0,99)=2 9()=1 10(0,1)=-1 9()=1 5(0,0,2,0,1)=-2 9()=0 1(1,0)=1 5(0,0,2,0,99)=-1 9()=1");
        Script.then(detour(), "5(0,1,2,1,41)=2 9()=1 10(0,1)=-2 9()=0 10(2,1)=-3 9()=0 10(1,1)=2 9()=1");
    }

    @Says("10: (0 <= above <= below <= 100, below not 0; 8 at most counts)")
    static void unlikeFraction() {
        Script.then(three(7), "5(0,0,2,0,99)=2 10(-1,1)=-3 10(2,1)=-3 10(101,101)=-3 10(1,101)=-3 10(0,0)=-3 10(-1,-1)=-3 10(0,-1)=-3 10(0,1)=-1 10(0,100)=-1 10(99,100)=-1 10(100,100)=2 10(1,1)=2");
        // four moves, three cells between: two thirds of three are two, and 99 hundredths too
        Script.then(only(0, 1, 2, 3, 4), "5(0,0,4,0,99)=4 10(2,3)=-1 10(99,100)=-1 10(3,3)=4 10(1,1)=4");
        // nine moves have eight cells between, ten have nine: more than count
        Script.then(only(0, 1, 2, 3, 4, 5, 6, 7, 8, 9, 10), "5(0,0,9,0,999)=9 10(7,8)=-1 10(1,1)=9 5(0,0,10,0,999)=10 10(1,1)=-1 10(100,100)=-1");
    }

    @Says({"10: Shared are cells that any way found comes to, but for both ends.", "10: (each time they are come to counts)"})
    static void shared() {
        Script.on("5(0,0,1,0,99)=1 10(0,1)=1 10(0,7)=1");
        // the way comes to (1, 3) twice: five in all
        Script.then(turnAbout(1, 2), "5(2,2,1,0,9999)=6 10(4,5)=-1 10(5,5)=6");
        // both first ways are shared with the third one: by (1, 0), by (1, 2), then there is none without
        Script.then(only(12, 1, 25, 14), "5(0,1,2,1,9999)=2 6(1,1)=0 10(0,1)=2 6(1,1)=2 10(0,1)=-1 10(1,1)=2");
    }

    @Says("10: Answers, and nodes, as of the last run(); a way is at hand then, and found; without one the way at hand stays.")
    static void unlikeAtHand() {
        Script.then(only(12, 1, 25, 14), "0(1,2,3,0)=1 5(0,1,2,1,9999)=2 7(0)=0 10(0,1)=2 7(0)=42 6(1,1)=2 10(0,1)=-1 7(0)=42 6(1,1)=2 11(0,1,1)=1 10(1,1)=2 7(0)=0 10(1,1)=2 10(1,1)=2 10(1,1)=2 10(1,1)=-3");
        Script.then(detour(), "5(0,1,2,1,33)=-2 5(0,1,2,1,34)=2 7*10(0,1)=-2 6(1,1)=0 7(0)=0 8()=10 5(0,1,2,1,41)=2 10(0,1)=-2 7(0)=0 5(0,1,2,1,42)=2 10(0,1)=2 7(0)=42 6(1,1)=2 8()=42");
    }

    @Says("10: Of ways as good as each other but for their cells the one with the fewest shared ones is the best.")
    static void fewestShared() {
        Script.then(only(12, 1, 25, 14), "5(0,1,2,1,9999)=2 6(1,1)=0 10(1,1)=2 6(1,1)=2 10(1,1)=2 6(1,1)=0");
    }

    @Says("10: - 3: no such fraction, no way is found, 6 are, or one of the ends is barred by now.")
    static void refusedUnlike() {
        Script.then(three(7), "10(1,1)=-3 5(0,0,2,0,2)=-2 10(1,1)=-3 5(0,0,2,0,99)=2 1(2,0)=1 10(1,1)=-3 12(2,0,3,1)=1 10(1,1)=-3 8()=70 9()=1 16()=0");
        Script.then(three(7), "5(0,0,2,0,99)=2 1(0,0)=1 10(1,1)=-3 16()=0");
        Script.then(three(7), "5(0,0,2,0,99)=2 4*10(1,1)=2 10(1,1)=2 10(1,1)=-3 10(1,1)=-3 16()=0");
    }

    /** Straight on by (1, 0) at 3 a unit and one of aim 0, or round by (0, 1) and (1, 1) at 5 a unit. */
    private static RoadHouse twoWays() {
        return Script.then(only(0, 1, 2, 12, 13, 14), "0(1,0,3,0)=1 0(1,1,5,0)=1 3(0,1,0,1)=1");
    }

    @Says({"11: the least (end 0) or greatest (1) one: part 0 upper, 1 lower, in least terms; without a greatest one 1 / 0.", "11: If there are none such: - 1 / 1.",
        "11: Weights of an aim (0 or above, others being what they are)"})
    static void span() {
        Script.then(twoWays(), "5(0,0,2,0,99999)=2 11(0,0,0)=0 11(0,0,1)=1 11(0,1,0)=1 11(0,1,1)=0 10(0,1)=3 7(0)=50 11(0,0,0)=2 11(0,0,1)=1 11(0,1,0)=1 11(0,1,1)=0"
            + " 11(1,0,0)=-1 11(1,0,1)=1 11(1,1,0)=-1 11(1,1,1)=1 3(0,1,0,3)=1 11(0,0,0)=2 11(0,0,1)=3 0(1,1,3,0)=1 11(0,0,0)=0 11(0,0,1)=1 11(1,0,0)=0 11(1,1,0)=1 11(1,1,1)=0");
        // by a weight of 3 the other one comes first: the one at hand is best up to 2
        Script.then(twoWays(), "4(0,3,1)=1 5(0,0,2,0,99999)=3 10(1,1)=3 10(0,1)=2 11(0,0,0)=0 11(0,0,1)=1 11(0,1,0)=2 11(0,1,1)=1 4(0,1,2)=1 11(0,1,0)=2 11(0,1,1)=1"
            + " 3(0,1,1,5)=1 11(0,0,0)=0 11(0,1,0)=1 11(0,1,1)=0 0(1,0,6,0)=1 11(0,0,0)=1 11(0,0,1)=4");
    }

    @Says("11: BAD: none such, no way at hand.")
    static void spanNone() {
        Script.then(three(7), "11(0,0,0)=-1 11(0,1,1)=-1 5(0,0,2,0,99)=2 11(-1,0,1)=-1 11(4,0,1)=-1 11(0,-1,1)=-1 11(0,2,1)=-1 11(0,0,-1)=-1 11(0,0,2)=-1 11(3,0,1)=1 11(0,1,0)=1");
    }

    @Says({"12: A bridge (in the place of one that is there).", "12: False: none such.", "may have a BRIDGE (a MOST 1 .. 3, and CENTS 0 .. 9,999)", "a bridge on others counts for nothing"})
    static void bridge() {
        Script.on("12(-1,0,1,0)=0 12(12,0,1,0)=0 12(0,-1,1,0)=0 12(0,12,1,0)=0 12(0,0,0,0)=0 12(0,0,4,0)=0 12(0,0,1,-1)=0 12(0,0,1,10000)=0 12(0,0,1,0)=1 12(11,11,3,9999)=1");
        Script.then(three(7), "12(1,0,3,9)=1 5(0,0,2,0,99)=2 7(0)=70 1(1,0)=1 7(0)=90 12(1,0,2,8)=1 12(1,0,4,7)=0 12(1,0,3,10000)=0 7(0)=80");
    }

    @Says("a bridged cell, counted with those bridged ones that were come to just before it, one behind the other, is at most the MOST of it")
    static void most() {
        Script.then(turnAbout(1, 1), "5(2,2,1,0,9999)=-1 12(1,1,2,0)=1 5(2,2,1,0,9999)=6 17()=1 12(1,1,1,0)=1 17()=0 12(1,1,3,0)=1 12(1,2,3,0)=1 5(2,2,1,0,9999)=6");
        // four in a row are more than any MOST; a cell that is not bridged between lets the count begin again
        RoadHouse x = only(0, 6);
        Script.then(x, "12(1,0,3,0)=1 12(2,0,3,0)=1 12(3,0,3,0)=1 12(4,0,3,0)=1 12(5,0,3,0)=1 5(0,0,6,0,9999)=-1");
        Script.then(only(0, 3, 6), "12(1,0,1,0)=1 12(2,0,2,0)=1 12(4,0,1,0)=1 12(5,0,2,0)=1 5(0,0,6,0,9999)=6 12(5,0,1,0)=1 5(0,0,6,0,9999)=-1");
    }

    @Says("into or out of a bridged cell the heading is that of the move before (if there is one)")
    static void straightOverBridges() {
        // from (0, 0) by (1, 1) to (2, 1): out of the bridge it would have to turn; to (2, 2) it need not
        Script.then(only(0, 14), "12(1,1,1,0)=1 5(0,0,2,1,999)=-1");
        Script.then(only(0, 14, 26), "12(1,1,1,0)=1 5(0,0,2,2,999)=2 5(0,0,2,1,999)=3");
        // into the bridge from (1, 0): come to by heading 0, so the bridge can only be at (2, 0)
        Script.then(only(0, 1, 3, 27), "12(2,1,1,0)=1 5(0,0,3,2,999)=-1 5(1,0,3,2,999)=2 12(2,0,1,0)=1 5(0,0,3,0,999)=3");
    }

    @Says("at most SLOPE between both levels")
    static void slope() {
        Script.then(three(7), "0(1,0,7,50)=1 0(2,0,0,100)=1 2(1,50,8)=1 5(0,0,2,0,99)=2 5(2,0,0,0,99)=2 17()=1 2(1,49,8)=1 17()=0 5(0,0,2,0,99)=-1 5(2,0,0,0,99)=-1 0(1,0,7,51)=1 2(1,50,8)=1 5(0,0,2,0,99)=-1");
    }

    @Says({"a move's heading differs from that of the move before by at most TURN", "Two headings DIFFER by the lesser way round, 0 .. 8."})
    static void turn() {
        // by heading 14, then by 0, 12 or 8; and by 2, then by 14, 4 or 8
        Script.then(only(12, 1, 2), "2(1,0,2)=1 5(0,1,2,0,999)=2 2(1,0,1)=1 5(0,1,2,0,999)=-1");
        Script.then(only(24, 13, 1), "2(1,0,2)=1 5(0,2,1,0,999)=2 2(1,0,1)=1 5(0,2,1,0,999)=-1");
        Script.then(only(0, 13, 2), "2(1,0,4)=1 5(0,0,2,0,999)=2 17()=1 2(1,0,3)=1 17()=0 5(0,0,2,0,999)=-1");
        // by odd ones, too: 0, then 1; 1, then 15; 3, then 13
        Script.then(only(0, 1, 15), "2(2,0,1)=1 5(0,0,3,1,9999)=2 2(2,0,0)=1 5(0,0,3,1,9999)=-1 17()=0");
        Script.then(only(12, 26, 16), "2(2,0,2)=1 5(0,1,4,1,9999)=2 17()=1 2(2,0,1)=1 17()=0 5(0,1,4,1,9999)=-1");
        Script.then(only(0, 25, 2), "2(2,0,6)=1 5(0,0,2,0,9999)=2 2(2,0,5)=1 5(0,0,2,0,9999)=-1");
        Script.then(only(1, 12, 13), "2(1,0,0)=1 5(0,1,1,0,999)=1 5(1,0,1,1,999)=1 6(1,2)=4");
    }

    @Says({"The LENGTH of even ones is 10 (0, 4, 8, 12) or 14, of odd ones 22.", "REACH 1 has the even ones, REACH 2 all."})
    static void lengths() {
        for (int h = 0; h < 16; h++) {
            int end = (5 + DY[h]) * 12 + 5 + DX[h];
            Script.then(only(65, end), "0(" + end % 12 + "," + end / 12 + ",1,0)=1 5(5,5," + end % 12 + "," + end / 12 + ",999)=" + (h % 2 == 0 ? 1 : -1)
                + " 2(2,0,0)=1 5(5,5," + end % 12 + "," + end / 12 + ",999)=1 7(0)=" + LENGTH[h] + " 2(1,0,0)=1 17()=" + (h % 2 == 0 ? 1 : 0));
        }
    }

    @Says("Of two ways the BETTER one has less cost; of those the fewer turns; of those the fewer moves; of those the lesser number of the cell where they differ first.")
    static void better() {
        // the dearer straight one, then as dear: the fewer turns
        Script.then(only(0, 1, 2, 13), "0(1,0,15,0)=1 0(1,1,10,0)=1 5(0,0,2,0,999)=2 6(1,1)=1 7(0)=140 0(1,0,14,0)=1 5(0,0,2,0,999)=2 6(1,1)=0 7(0)=140");
        // one turn each, by REACH 2: two moves or three
        Script.then(only(0, 13, 14, 15), "2(2,0,8)=1 5(0,0,3,1,999)=2 6(1,0)=2 6(1,1)=1 16()=1");
        // one turn and two moves each: the first cell that differs
        Script.then(only(12, 1, 25, 14), "5(0,1,2,1,999)=2 6(1,1)=0");
        Script.then(only(0, 13, 26, 27, 1, 14), "5(0,0,3,2,999)=3 6(1,0)=1 6(1,1)=0 6(2,0)=2 6(2,1)=1");
    }

    @Says("It may come to cells again.")
    static void again() {
        Script.then(turnAbout(1, 2), "5(2,2,1,0,9999)=6 6(1,0)=1 6(1,1)=3 6(2,0)=1 6(2,1)=4 6(3,0)=1 6(3,1)=3 6(4,1)=2 6(5,1)=1 6(6,1)=0 16()=2 15(0)=0 0(1,3,5,0)=1 15(0)=10");
    }

    @Says("A move costs its length times: the cents of a bridged cell; of another one the cost, and the sum of all weights times values, of the cell that it comes to.")
    static void moveCost() {
        Script.then(three(7), "0(0,0,999,0)=1 3(0,1,0,2)=1 3(1,1,0,3)=1 4(0,1,2)=1 4(1,2,3)=1 5(0,0,2,0,99)=2 7(0)=100 7(1)=1 0(2,0,1,0)=1 7(0)=110 1(1,0)=1 12(1,0,1,4)=1 7(0)=50 7(1)=1");
    }

    @Says({"13: A person's mark (0: it goes): how many persons have marks there.", "13: BAD: none such.", "PERSONS 0 .. 7 put MARKS of kinds 0 .. 3 on cells (0: none)",
        "a cell's value of aim 3 is what was told, and 10 times the sum of the kinds of all marks there"})
    static void mark() {
        Script.on("13(-1,0,0,1)=-1 13(8,0,0,1)=-1 13(0,-1,0,1)=-1 13(0,12,0,1)=-1 13(0,0,-1,1)=-1 13(0,0,12,1)=-1 13(0,0,0,-1)=-1 13(0,0,0,4)=-1 13(0,0,0,0)=0 13(0,0,0,3)=1"
            + " 13(7,0,0,1)=2 13(7,0,0,3)=2 13(0,11,11,1)=1 13(0,0,0,0)=1 13(7,0,0,0)=0 13(7,0,0,0)=0 8*13(#,5,5,3)=#+1");
        Script.then(three(0), "3(3,1,0,4)=1 4(3,1,1)=1 5(0,0,2,0,99)=2 7(0)=40 13(0,1,0,3)=1 7(0)=340 13(7,1,0,2)=2 7(0)=540 13(0,1,0,1)=2 7(0)=340 13(0,1,0,4)=-1 7(0)=340 13(7,1,0,0)=1 7(0)=140 3(3,1,0,0)=1 7(0)=100"
            + " 4(3,0,1)=1 4(0,1,1)=1 4(1,1,1)=1 4(2,1,1)=1 7(0)=0");
    }

    @Says({"14: A cell's zone, 0 .. 7 (0 at first): what it was.", "14: BAD: none such."})
    static void zone() {
        Script.on("14(-1,0,0)=-1 14(8,0,0)=-1 14(0,-1,0)=-1 14(0,12,0)=-1 14(0,0,-1)=-1 14(0,0,12)=-1 14(7,0,0)=0 14(8,0,0)=-1 14(0,0,0)=7 14(3,11,11)=0 14(3,11,11)=3");
    }

    @Says({"15: The sum of the costs of all cells in a zone to which the way at hand comes, its first one too, each time.", "15: BAD: none such, no way at hand."})
    static void sum() {
        Script.then(three(7), "15(0)=-1 5(0,0,2,0,99)=2 0(0,0,100,0)=1 0(2,0,20,0)=1 15(-1)=-1 15(8)=-1 15(0)=127 14(7,1,0)=0 15(0)=120 15(7)=7 15(1)=0 5(0,0,2,0,1)=-2 15(0)=-1");
    }

    @Says({"16: BAD: none.", "A TURN of a way is a move with another heading than the one before."})
    static void turns() {
        Script.then(only(0, 13, 2, 3), "16()=-1 5(0,0,3,0,999)=3 16()=2 5(0,0,1,1,999)=1 16()=0 5(0,0,2,0,999)=2 16()=1 5(0,0,2,0,1)=-2 16()=-1");
    }

    @Says({"17: Whether the way at hand keeps all that ways must, as things are now.", "17: False also: none."})
    static void keeps() {
        Script.then(three(7), "17()=0 5(0,0,2,0,99)=2 17()=1 1(1,0)=1 17()=0 12(1,0,1,0)=1 17()=1 1(0,0)=1 17()=0");
        Script.then(three(7), "5(0,0,2,0,99)=2 1(2,0)=1 17()=0 12(2,0,2,0)=1 17()=0");
        Script.then(three(7), "5(0,0,2,0,99)=2 0(2,0,0,5)=1 2(1,4,0)=1 17()=0 2(1,5,0)=1 17()=1");
        // a way with a turn at a cell that becomes bridged
        Script.then(only(0, 13, 2), "5(0,0,2,0,999)=2 17()=1 1(1,1)=1 12(1,1,3,0)=1 17()=0");
    }

    /** Five ways from (0, 2) to (2, 2), all found, by (1, 2), (1, 0), (1, 1), (1, 3) and last (1, 4), each by its own cell. */
    private static RoadHouse fiveWays() {
        RoadHouse x = Script.then(only(24, 26, 1, 13, 25, 37, 49), "2(2,0,8)=1 5(0,2,2,2,99999)=2 6(1,1)=2 4*10(0,1)=2 10(0,1)=-1 6(1,1)=4 4(0,1,1)=1");
        // the last one costs 110 and 110 times the weight; the others so much that they do not count
        return Script.then(x, "0(1,4,5,0)=1 3(0,1,4,5)=1 0(1,0,999,0)=1 0(1,1,999,0)=1 0(1,2,999,0)=1 0(1,3,999,0)=1 11(0,0,0)=0 11(0,1,0)=988 11(0,1,1)=11");
    }

    @Says("11: Weights of an aim (0 or above, others being what they are) for which no way found costs less than the one at hand, by costs as they are now")
    static void spanOfFive() {
        // 220, 330, 280 without the aim: up to 1, 2, 17 / 11
        Script.then(fiveWays(), "0(1,2,33,0)=1 11(0,1,0)=2 11(0,1,1)=1 0(1,0,10,0)=1 11(0,1,0)=1 11(0,1,1)=1 0(1,1,20,0)=1 11(0,1,0)=1 11(0,1,1)=1 11(0,0,0)=0 0(1,1,10,0)=1 11(0,1,0)=3 11(0,1,1)=11 4(0,7,3)=1 11(0,1,0)=3 11(0,1,1)=11");
        // 330, 220, 280 times the weight: from 1 / 2, 1, 11 / 17 on
        Script.then(fiveWays(), "0(1,2,0,0)=1 3(0,1,2,33)=1 11(0,0,0)=1 11(0,0,1)=2 0(1,0,0,0)=1 3(0,1,0,10)=1 11(0,0,0)=1 11(0,0,1)=1 0(1,1,0,0)=1 3(0,1,1,20)=1 11(0,0,0)=1 11(0,0,1)=1 0(1,3,5,0)=1 3(0,1,3,9)=1 11(0,0,0)=5 11(0,0,1)=2");
        // another aim that has a weight counts in what the ways cost
        Script.then(fiveWays(), "0(1,2,33,0)=1 11(0,1,0)=2 3(1,1,2,4)=1 4(1,11,4)=1 11(0,1,0)=3 11(0,1,1)=1 11(1,0,0)=0 11(1,1,1)=0 11(2,0,1)=1 11(2,1,0)=1 11(2,1,1)=0");
    }

    @Says("11: If there are none such: - 1 / 1.")
    static void spanOfOneWeight() {
        // 140; 140 times the weight; and at hand 70 and 70 times it: by the weight 1 alone it costs no more than both
        RoadHouse x = Script.then(only(12, 1, 13, 25, 14), "0(1,1,14,0)=1 3(0,1,0,10)=1 0(1,2,5,0)=1 3(0,1,2,5)=1 4(0,1,1)=1 5(0,1,2,1,9999)=2 6(1,1)=1 10(0,1)=2 6(1,1)=0 10(0,1)=2 6(1,1)=2");
        Script.then(x, "11(0,0,0)=1 11(0,0,1)=1 11(0,1,0)=1 11(0,1,1)=1 0(1,2,4,0)=1 11(0,0,0)=4 11(0,0,1)=5 11(0,1,0)=6 11(0,1,1)=5 0(1,2,6,0)=1 11(0,0,0)=-1 11(0,0,1)=1 11(0,1,0)=-1 11(0,1,1)=1");
    }

    public static void main(String[] args) {
        Script.run(WaySentencesTest.class);
    }
}
