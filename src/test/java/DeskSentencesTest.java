/** The desk: the calls of parts, and promises 1, 2 and 6 to 12, sentence by sentence. */
public final class DeskSentencesTest {
    /** A way along the edge of the grid, ten metres a move. */
    private static RoadHouse way(int moves) {
        return Script.on("5(0,0," + moves + ",0,100000)=" + moves);
    }

    private static void bridged(RoadHouse x, int... cells) {
        for (int c : cells) {
            Script.then(x, "1(" + c + ",0)=1 12(" + c + ",0,3,1)=1");
        }
    }

    @Says("P1: All parts as they begin.")
    static void newObject() {
        Script.on("whole(0)=0 whole(1)=0 whole(2)=BAD whole(3)=1 whole(4)=0 whole(5)=1 whole(6)=0 whole(7)=1 whole(8)=1 earth(0,0)=BAD bridge(0,1)=BAD rowOf(0)=BAD pass(0)=BAD drive(1)=BAD bill(0)=BAD whole(0)=0 607(0)=0 401()=0 214(0)=1 301()=0");
        Script.due("BAD", RoadHouse.BAD, -1L);
        Script.due("NONE", RoadHouse.NONE, -9000000000000000000L);
        RoadHouse x = new RoadHouse();
        Script.due("logJoin", x.logJoin(0, 1), -1.0);
        Script.due("crackAt", x.crackAt(0), -1.0);
        Script.due("crack", x.crack(1, 2, 1), -1);
        // what one object was told another one does not know
        Script.on("5(0,0,5,0,99999)=5 301()=0 300(0,1,1)=1 604(0,0)=1");
        Script.on("16()=-1 301()=0 311(-1)=0");
    }

    @Says({"there is no such call: NONE (- 9,000,000,000,000,000,000)", "P2: A call of a part."})
    static void noSuchCall() {
        Script.on("18(0)=NONE 99(0)=NONE 118(0)=NONE 199(0)=NONE 215(0)=NONE 299(0)=NONE 323(0)=NONE 399(0)=NONE 420(0)=NONE 499(0)=NONE 520(0)=NONE 599(0)=NONE 625(0)=NONE 699(0)=NONE 724(0)=NONE 799(0)=NONE 800(0)=NONE 808(0)=NONE"
            + " -1(0)=NONE -100(0)=NONE -99(0)=NONE 17()=0 117(0,0)=-1 214(0)=1 322()=0 419(0,0)=-1 519(0,0,1)=0 624(0,0)=-1 723(0)=-1");
        RoadHouse x = new RoadHouse();
        Script.due("the least call", x.act(Integer.MIN_VALUE, 0, 0, 0, 0, 0), RoadHouse.NONE);
        Script.due("the greatest call", x.act(Integer.MAX_VALUE, 0, 0, 0, 0, 0), RoadHouse.NONE);
    }

    @Says({"What a call throws, act() throws.", "BAD is - 1 everywhere", "with as many of a .. e as it names, in their order (where a truth is named: true, if it is not 0)", "a truth as 1 or 0; a call that answers nothing 0"})
    static void truths() {
        RoadHouse x = new RoadHouse();
        Script.due("more numbers than are named", x.act(1, 3, 3, MAX, MAX, MAX), 1);
        Script.then(x, "1(3,3)=0 203(1,0,MIN)=0 203(1,0,0)=1 203(1,0,2)=0 203(1,0,0)=1 322()=0 500(2)=0 606(0,1,-1)=1");
        // 108, 500 and 202 throw what they throw
        Script.then(x, "108(-1)!state 500(-1)!size 500(0)!argument 202(9,0,0)!index");
    }

    private static final int MAX = Integer.MAX_VALUE;

    @Says({"P6: BAD: no way, no such kind (0 .. 3) or week (0 .. 11).", "P6: (those that EARTH refuses did not)"})
    static void earth() {
        Script.on("earth(0,0)=BAD 5(0,0,4,0,3)=-2 earth(0,0)=BAD 5(0,0,4,0,9999)=4 earth(-1,0)=BAD earth(4,0)=BAD earth(0,-1)=BAD earth(0,12)=BAD whole(0)=0 earth(0,0)=0 earth(3,11)=0 whole(0)=2 115(100000,0)=0 115(100000,1)=0");
        // one cut each time, until there are eight; then what is refused does not count
        Script.then(way(4), "0(2,0,0,1)=1 8*earth(0,0)=1 earth(0,0)=0 115(19,0)=0 115(20,0)=80 115(100000,0)=80 115(100000,1)=0 whole(0)=9");
        // so high that there would be more than EARTH takes: it takes 99,990 all the same, and it is no more than that
        Script.then(way(2), "0(1,0,0,9999)=1 earth(0,0)=1 115(10,0)=99990");
    }

    @Says({"P6: with the straight line from the level of its first cell to that of its last one, by metres, down to whole levels", "P6: what is above the line, ten times that, becomes a cut (call 100) of that kind and week at its metre; what is below it, ten times that, a fill (call 101) of the week behind (11 at most) at its metre"})
    static void earthLine() {
        // from 100 to 59 in 40 metres: 89.75, 79.5 and 69.25, so 89, 79 and 69
        RoadHouse x = Script.then(way(4), "0(0,0,0,100)=1 0(1,0,0,90)=1 0(2,0,0,79)=1 0(3,0,0,60)=1 0(4,0,0,59)=1 earth(2,3)=2 115(9,0)=0 115(10,0)=10 115(100000,0)=10 115(29,1)=0 115(30,1)=90 106(0,0)=0 108(2)=0 114(3,0,0)=-1 114(4,0,2)=10 114(4,1,2)=80 102(1,2,1)=1 115(10,0)=10 102(2,2,1)=1 115(10,0)=20");
        Script.then(x, "earth(0,11)=2 108(6)=0 114(11,0,1)=1 114(11,0,2)=10 whole(0)=2");
        // from 10 to 7 in 30 metres is 9, 8; rising from 7 to 8: 7, 7
        Script.then(way(3), "0(0,0,0,10)=1 0(1,0,0,9)=1 0(2,0,0,9)=1 0(3,0,0,7)=1 earth(0,0)=1 115(20,0)=10 0(0,0,0,7)=1 0(1,0,0,7)=1 0(2,0,0,7)=1 0(3,0,0,8)=1 earth(0,0)=0 0(2,0,0,6)=1 earth(0,5)=1 115(20,1)=10");
        // from 0 down to - 1 / 3 and so on is a level less
        Script.then(way(3), "0(0,0,0,1)=1 0(1,0,0,1)=1 0(2,0,0,1)=1 earth(0,0)=2 115(10,0)=10 115(20,0)=20");
        // a cut of week 6 can be used from then on; the fill is of week 7
        Script.then(way(3), "0(1,0,0,5)=1 0(0,0,0,5)=1 0(3,0,0,5)=1 earth(0,6)=1 0(2,0,0,9)=1 0(1,0,0,5)=1 100(50,0,0,0)=0 108(1)=0 114(7,0,2)=50 114(6,0,2)=-1");
        // a cut of week 4 serves no fill of week 3, but one of week 4
        Script.then(way(2), "0(1,0,0,1)=1 earth(0,4)=1 101(10,3,0)=0 108(1)=1 101(10,4,0)=1 103(0,0,0)=1 106(0,1000)=0 108(4)=0 109(0,1,0)=10");
    }

    @Says("THE DESK keeps, of calls 0, 1, 12 that were not refused, levels of cells (0 where none was told), barred ones, and those with bridges (both: bridged), as they are now; and the weeks of fills.")
    static void deskKeeps() {
        // what is refused does not count; what was told before the way was found, or behind it, does
        Script.then(way(3), "0(1,0,0,5)=1 0(1,0,1000,9)=0 0(1,0,0,10000)=0 0(1,12,0,9)=0 earth(0,0)=1 115(10,0)=50 0(1,0,0,7)=1 earth(0,0)=1 115(10,0)=120 0(1,0,0,0)=1 earth(0,0)=0");
        Script.then(way(3), "1(1,0)=1 12(1,0,4,1)=0 12(1,0,1,10000)=0 bridge(0,1)=BAD 0(1,0,0,5)=1 earth(0,0)=1 12(1,0,1,1)=1 earth(0,0)=0 bridge(0,1)=2 1(1,0)=0 bridge(0,1)=2 12(2,0,1,1)=1 bridge(1,1)=BAD bridge(0,1)=2");
        // fills of weeks 4 and 11, that EARTH was told or that came from the way
        Script.then(way(2), "700'x=1' 701()=1 106(0,0)=0 101(5,4,0)=0 101(0,9,0)=-1 0(0,0,0,9)=1 0(2,0,0,9)=1 earth(0,11)=1 108(2)=0 bill(0)=2 705(0,4,1)=1 705(0,11,1)=1 705(0,9,1)=0");
    }

    @Says("P6: for each place in order whose cell is not bridged")
    static void earthBridged() {
        RoadHouse x = Script.then(way(4), "0(1,0,0,7)=1 0(2,0,0,7)=1 0(3,0,0,7)=1");
        bridged(x, 2);
        // one that is barred alone, and one with a bridge alone, are not bridged
        Script.then(x, "1(1,0)=1 12(3,0,1,0)=1 earth(0,0)=2 115(19,0)=70 115(20,0)=70 115(30,0)=140");
        RoadHouse y = Script.then(way(2), "0(0,0,0,5)=1 1(0,0)=1 12(0,0,1,1)=1 0(2,0,0,5)=1 1(2,0)=1 12(2,0,1,1)=1 earth(0,0)=1 115(10,1)=50");
        Script.then(y, "whole(0)=1");
    }

    @Says({"P7: BAD: no way, no such row or stiffness; more than three moves; no place behind it: nothing is changed.", "P7: of all rows of places with bridged cells, one behind the other, that have a place before them, the k-th"})
    static void bridge() {
        Script.on("bridge(0,1)=BAD 5(0,0,9,0,3)=-2 bridge(0,1)=BAD");
        RoadHouse x = Script.then(way(9), "bridge(0,1)=BAD");
        bridged(x, 2, 4, 5);
        Script.then(x, "200'S3x3' bridge(-1,5)=BAD bridge(2,5)=BAD bridge(0,0)=BAD bridge(0,13)=BAD bridge(0,-1)=BAD whole(0)=0 214(4)=1 200(83)=1 201()=1 214(4)=3 bridge(0,12)=2 214(0)=2 214(4)=10 214(3)=3 bridge(1,1)=3 214(0)=3 214(4)=15 214(3)=4 214(2)=0 whole(0)=2");
        bridged(x, 6);
        Script.then(x, "200'F2x2.' bridge(1,1)=BAD 214(0)=3 201()=1 214(4)=2 bridge(0,1)=2 214(4)=10");
        // the end is bridged: no place behind; the first one is bridged, too: none before
        bridged(x, 9, 0);
        Script.then(x, "bridge(2,1)=BAD bridge(3,1)=BAD bridge(0,1)=2 214(4)=10");
        bridged(x, 1);
        Script.then(x, "bridge(0,1)=BAD bridge(1,1)=BAD whole(0)=4");
    }

    @Says({"P7: each move from the place before it to the place behind it becomes a beam of half its length, with that stiffness (1 .. 12), on nodes held in height (S): the text of that is read as by call 201 (what was collected there is gone): how many beams"})
    static void bridgeBeams() {
        RoadHouse x = Script.on("2(2,9999,8)=1 5(0,0,2,1,99999)=1 5(0,0,4,2,99999)=2 6(1,0)=2 6(1,1)=1 1(2,1)=1 12(2,1,1,1)=1 200'xyz' bridge(0,12)=2 201()=-1 214(4)=22 203(0,0,1)=1 203(0,1,0)=0 203(1,0,1)=1 203(2,0,1)=1 207(0,0,0)=0 212(0,7)=1 bridge(0,1)=2 214(1)=0 213(0,1,1,0)=0");
        // a move down there by twice as stiff beams is half as great
        Script.on("5(0,0,2,2,99999)=2 1(1,1)=1 12(1,1,1,1)=1 bridge(0,1)=2 214(4)=14 207(2,0,2)=0 208(0,0,2,0)=7889 208(0,0,2,1)=1536 bridge(0,2)=2 207(2,0,2)=0 208(0,0,2,0)=7889 208(0,0,2,1)=3072");
    }

    @Says("P7: with that stiffness (1 .. 12)")
    static void bridgeStiffness() {
        // in the middle of two beams of 5, as stiff as s, held at both ends and in the middle: the same by s
        RoadHouse x = way(3);
        bridged(x, 1);
        for (int s = 1; s <= 12; s++) {
            int whole = 2875;
            int by = 1536 * s;
            int g = java.math.BigInteger.valueOf(whole).gcd(java.math.BigInteger.valueOf(by)).intValue();
            Script.then(x, "bridge(0," + s + ")=2 207(2,0,2)=0 208(0,0,2,0)=" + whole / g + " 208(0,0,2,1)=" + by / g + " 214(4)=10");
        }
    }

    @Says({"P8: BAD: some value is not told, or has a part 2 or 3 that is not 0, or a part 0 or 1 that is 10^15 or more, or is, times 1,000 and so cut off, farther from 0 than 1,000,000: nothing is changed.", "P8: which is cleared before (call 322)"})
    static void rowOf() {
        RoadHouse x = Script.on("301()=0 302(0,0,1)=1 300(7,5,1)=1 304(0,0)=1 305(0)=5 rowOf(0)=BAD rowOf(-1)=BAD rowOf(8)=BAD 305(0)=5 320()=1 203(0,1,0)=1 207(0,0,0)=0 rowOf(0)=BAD 305(0)=5 203(0,1,1)=0 whole(0)=0 rowOf(0)=5 305(0)=-1 320()=0 304(0,0)=5 whole(0)=1");
        // the moment of a clamped beam of 1: 0, - 1 / 4 and so on; each place is a quarter
        Script.then(x, "318(0,0,-1)=0 318(0,1,-1)=-1 318(0,1,0)=1 318(0,1,1)=4 318(0,4,0)=1 318(0,4,1)=1 306(0)=0 302(0,1,1)=1 304(0,0)=6 rowOf(1)=BAD 305(0)=0 320()=11");
        // a lower part of sixteen digits, an upper one of seventeen, and both of fifteen
        Script.on("200'F7x10.12x11.11x9F' 201()=3 207(2,0,1)=0 208(0,0,1,0)=152176514622391 208(0,0,1,1)=1022841299066880 rowOf(0)=BAD whole(0)=0");
        Script.on("200'F7x11.11x10.11x9F' 201()=3 207(2,1,3)=0 208(0,1,3,0)=11181489903494537 208(0,1,3,1)=877902697390080 rowOf(0)=BAD 207(2,0,3)=1 rowOf(1)=13 whole(0)=1");
        // at a reaction's row, when its node is not held any more
        Script.on("200'F4x1S' 201()=1 207(3,1,0)=0 rowOf(0)=5 203(1,0,0)=1 rowOf(0)=BAD 203(1,0,1)=0 rowOf(0)=5 whole(0)=2");
    }

    @Says({"P8: each times 1,000 and cut off towards 0, by 1,000, become the corners of the row of TRAINS", "P8: the first one at place 0, each other one farther than the one before by the length of the beam that is between (so these places are quarters): how many"})
    static void rowOfCorners() {
        // down at the end of a clamped beam of 12, as stiff as 1: 12 cubed by 3 is 576, times 1,000 is 576,000
        RoadHouse x = Script.on("200'F12x1.' 201()=1 207(2,0,4)=0 301()=0 302(0,0,1)=1 rowOf(0)=5 318(0,4,0)=576 318(0,3,0)=729 318(0,3,1)=2 304(0,0)=5 306(0)=48");
        // two of 12: at the end 24 cubed by 3 is 4,608: too far
        Script.then(x, "200'F12x1.12x1.' 201()=2 207(2,1,4)=0 rowOf(0)=BAD 305(0)=576 202(1,12,12)=1 rowOf(0)=BAD 202(0,12,5)=1 202(1,12,5)=1 rowOf(0)=9 305(0)=-1 318(0,8,0)=4608 318(0,8,1)=5 318(0,4,0)=288 304(0,0)=9 306(0)=96");
        // just 1,000 is told, times 1,000 a million; a little more than a million is too far
        Script.on("200'F1x9.7x1.8x9.' 201()=3 207(2,2,4)=0 301()=0 302(0,0,1)=1 208(0,2,4,0)=1000 208(0,2,4,1)=1 rowOf(0)=13 318(0,12,0)=1000 318(0,12,1)=1");
        Script.on("200'F9x8.10x3.9x4.' 201()=3 207(2,2,2)=0 301()=0 302(0,0,1)=1 300(5,7,1)=1 304(0,0)=1 208(0,2,4,0)=576001 208(0,2,4,1)=576 rowOf(0)=BAD 305(0)=7 202(2,9,5)=1 rowOf(0)=13 305(0)=-1");
        // beams of 3, 5 and 1 between the same places as theirs; 1 / 3 is cut off towards 0
        Script.on("200'F3x1S5x1.1x1F' 201()=3 207(3,0,0)=0 301()=0 302(0,0,1)=1 rowOf(0)=13 318(0,0,0)=1 318(0,0,1)=1 302(0,60,0)=1 302(0,1,0)=1 300(36,0,1)=0 300(37,0,1)=1 300(38,0,1)=0");
        Script.on("200'F3x1S' 201()=1 207(0,0,0)=0 301()=0 302(0,0,1)=1 208(0,0,1,-1)=-1 208(0,0,1,0)=63 208(0,0,1,1)=128 rowOf(0)=5 318(0,1,-1)=-1 318(0,1,0)=123 318(0,1,1)=250 300(12,0,1)=0 300(13,0,1)=1");
    }

    @Says({"P9: BAD: there is no such train.", "P9: come as values (call 400) behind the row of stresses (those with a part 2 or 3 that is not 0, or so cut off farther from 0 than 1,000,000, do not; nor those that STRESS refuses), then a 0: how many came, but for that 0"})
    static void pass() {
        RoadHouse x = Script.on("pass(0)=BAD pass(-1)=BAD 301()=0 pass(1)=BAD 400(9)=1 pass(0)=0 404()=2 403(1)=0 whole(0)=1 302(0,0,1000000)=1 pass(0)=0 300(0,1,1)=1 300(1,1001,1000)=1 300(2,-1,1)=1 300(3,-1001,1000)=1 300(4,-2,3)=1 418(0)=1 pass(0)=3");
        Script.then(x, "414(0)=-1000000 414(1)=1000000 403(0)=1000000 403(1)=-1000000 403(2)=0 404()=3 418(0)=1 302(0,1,1)=1 whole(0)=3");
        // by lower parts without common factors on three pieces an effect has more than eighteen digits below: it does not come
        RoadHouse y = Script.on("300(0,1,997)=1 300(101,1,991)=1 300(204,1,983)=1 300(311,1,977)=1 301()=0 302(0,0,1)=1 302(0,60,1)=1 302(0,60,1)=1 302(0,60,1)=1 302(0,60,1)=1");
        int tried = 0;
        int told = 0;
        while (y.act(318, 0, tried, -1, 0, 0) != -2) {
            told += y.act(318, 0, tried, 2, 0, 0) == 0 && y.act(318, 0, tried, 3, 0, 0) == 0 ? 1 : 0;
            tried++;
        }
        Script.due("places tried", tried, 20);
        Script.due("some are not told in so few parts", told > 0 && told < tried ? 1 : 0, 1);
        Script.then(y, "pass(0)=" + told);
        // towards 0: - 2 / 3 and 2 / 3 are 0
        Script.on("301()=0 302(0,0,1)=1 300(0,-5,3)=1 300(1,2,3)=1 300(2,5,3)=1 pass(0)=3 403(0)=-1 403(1)=1 403(2)=0 404()=3");
        // room for two and not for the 0, then for none
        Script.on("301()=0 302(0,0,1)=1 300(0,7,1)=1 300(1,5,1)=1 300(2,9,1)=1 298*400(1)=1 pass(0)=2 403(0)=1 403(1)=7 403(2)=5 404()=3 400(0)=0 pass(0)=0 404()=3 whole(0)=2");
    }

    /** Two groups by turns, each for two seconds at least and three at most. */
    private static RoadHouse crossing() {
        return Script.on("500(2)=0 504'A2-3;B2-3' 505()=2 600(1,900,10,100)=1 604(1,900)=1 600(0,900,10,100)=1 604(0,900)=1");
    }

    @Says({"P10: BAD: no plan, another number.", "P10: second by second, at most so many (1 .. 100), as long as there are steps left and the machine has no fault", "P10: How many steps were done."})
    static void drive() {
        Script.on("drive(1)=BAD 500(2)=0 drive(1)=BAD");
        RoadHouse x = Script.then(crossing(), "drive(0)=BAD drive(101)=BAD drive(-1)=BAD whole(0)=0 607(0)=0 510(0)=0 drive(1)=1 607(0)=1 510(0)=1 drive(100)=100 607(0)=101 510(0)=101 607(90)=191 drive(100)=9 607(0)=200 510(0)=110 drive(5)=0 510(0)=110 whole(0)=4 610()=1");
        Script.then(x, "621()=0 500(2)=0 drive(5)=BAD");
    }

    @Says("P10: for each group whose being shown is not what drive() told its cell (the one with its number) last")
    static void driveSixGroups() {
        // all six cells get a red, but the one whose group is shown: each of them in its turn
        RoadHouse x = Script.on("500(6)=0 504'A1-1;B1-1;C1-1;D1-1;E1-1' 505()=5 8*600(#,900,10,100)=1 8*604(#,900)=1 drive(1)=1");
        Script.then(x, "608(0)=900 608(1)=890 608(2)=900 608(3)=900 608(4)=900 608(5)=900 608(6)=890 608(7)=890 drive(2)=2 608(2)=890 608(3)=890 608(4)=900 608(5)=900 504'F1-9' 505()=1 508(1,1)=1 drive(1)=1 608(5)=890 608(0)=900");
    }

    @Says("P10: A second with a fault is done by the machine alone.")
    static void driveFault() {
        Script.then(crossing(), "501(0,1,0)=1 502(0,15)=1 drive(100)=2 607(0)=2 510(0)=3 drive(100) whole(0)=2");
        Script.on("500(2)=0 504'AB1-1' 505()=1 501(0,1,0)=1 drive(100)=0 607(0)=0 510(0)=1 drive(1)=0 510(0)=2 607(0)=0 whole(0)=2");
    }

    @Says({"P10: for each group whose being shown is not what drive() told its cell (the one with its number) last (at first: shown), drive() tells that cell a signal from the next step on (call 606; if it is refused, it was not told), and the cells do a step"})
    static void driveSignals() {
        // B is not shown at first; from second 3 on it is, and A is not
        RoadHouse x = Script.then(crossing(), "drive(1)=1 608(0)=890 608(1)=900 drive(1)=1 608(0)=880 608(1)=900 drive(1)=1 608(0)=880 608(1)=890 drive(3)=3 608(0)=870 608(1)=870");
        // 606 was told four times: A twice, B three times; there is room for 195 more
        Script.then(x, "195*606(5,200,0)=1 606(5,200,0)=0 drive(2)=2 608(0)=850 608(1)=870 drive(1)=1 608(0)=840 608(1)=870");
        // what was told stays told, whatever was said to the cell, or the machine, in between
        Script.then(crossing(), "drive(1)=1 608(1)=900 606(1,2,1)=1 drive(1)=1 608(1)=890 500(2)=0 504'B9-9' 505()=1 drive(1)=1 608(1)=880 608(0)=880 500(1)=0 504'A9-9' 505()=1 drive(1)=1 608(0)=870 608(1)=870");
    }

    @Says({"P11: BAD: no plan, no such item.", "P11: how many entries came (those that CONTRACT refuses did not; shapes that came stay)"})
    static void bill() {
        RoadHouse x = Script.on("bill(0)=BAD 700'x=a*1000+b;y=c' 701()=2 bill(0)=BAD 108(0)=0 bill(-1)=BAD bill(2)=BAD whole(0)=0 bill(0)=0 whole(0)=1 100(5,0,0,0)=0 bill(0)=BAD 101(3,2,10)=0 108(1)=0 bill(0)=1 705(0,2,0)=3 bill(1)=1 705(1,2,0)=10 whole(0)=3");
        // 60 entries: shapes come all the same, until there are 40
        Script.then(x, "57*704(0,0,0)=1 bill(0)=1 bill(0)=0 bill(0)=0 703(0,1,1,1)=5 34*703(0,0,0,0)=6+# 703(0,0,0,0)=-1 bill(0)=0 whole(0)=7");
        Script.on("700'x=a' 701()=1 40*703(0,0,0,0)=# 108(0)=0 100(5,0,0,0)=0 101(3,2,10)=0 108(1)=0 bill(0)=0 704(39,0,0)=1");
    }

    @Says("P11: with v moved by the plan, v above 0")
    static void billOne() {
        Script.on("700'x=a*1000+b;y=1' 701()=2 100(1,0,0,0)=0 101(1,5,3)=0 101(2,6,3)=1 106(0,0)=0 108(4)=0 109(0,0,0)=1 109(0,1,0)=0 109(1,1,0)=2 bill(0)=2 705(0,5,0)=1 705(0,6,0)=2 703(0,0,0,0)=2");
    }

    @Says({"P11: for each source and each fill, in order, with v moved by the plan, v above 0 and below 10,000,000: a shape (call 703) of kind 0 with v by 1,000, cut off, what remains, and the cents of a unit (9,999 at most), and a plain entry of it (call 704) in that item, in the fill's week as its month"})
    static void billShapes() {
        RoadHouse x = Script.on("700'x=a*1000+b;y=c;z=k;s=a' 701()=4 106(0,5)=0 100(4999,0,0,0)=0 101(1000000,11,9994)=0 101(999,0,9995)=1 108(4)=0 109(0,0,0)=4999 109(0,1,0)=0 109(1,0,0)=995001 109(1,1,0)=999 bill(0)=3 705(0,11,0)=1000000 705(0,0,0)=999 705(0,11,1)=2 705(0,0,1)=1");
        // the cut to fill 0 at 9,994 cents a unit, the pit at 9,999 and at 10,000, of which 9,999 count
        Script.then(x, "3*704(#,1,1)=1 705(1,1,0)=29992 704(0,1,2)=1 705(1,2,0)=9994 704(1,1,3)=1 705(1,3,0)=9999 704(2,1,4)=1 705(1,4,0)=9999 3*704(#,2,1)=1 705(2,1,0)=0 704(0,3,1)=1 704(2,3,2)=1 705(3,1,0)=4 705(3,2,0)=0");
    }

    @Says({"P12: 0: how many of earth() .. bill() were not BAD.", "P12: BAD: another number."})
    static void whole() {
        Script.on("whole(-1)=BAD whole(9)=BAD whole(MAX)=BAD whole(MIN)=BAD whole(0)=0 301()=0 pass(0)=0 whole(0)=1 pass(1)=BAD whole(0)=1 207(0,0,0)=0 rowOf(0)=5 whole(0)=2 5(0,0,3,0,999)=3 earth(0,0)=0 whole(0)=3 108(0)=0 700'x=1' 701()=1 bill(0)=0 whole(0)=4 504'A1-1' 505()=1 drive(1)=1 whole(0)=5"
            + " 1(1,0)=1 12(1,0,1,1)=1 bridge(0,1)=2 whole(0)=6 whole(1)=1");
    }

    @Says({"P12: 1 whether the way keeps all that ways must (call 17); 2 the plan of EARTH its bounds (BAD: no plan)"})
    static void wholeParts() {
        Script.then(way(3), "whole(1)=1 1(2,0)=1 whole(1)=0 whole(2)=BAD 108(0)=0 whole(2)=1 101(1,0,0)=0 whole(2)=BAD 108(1)=1 whole(2)=BAD");
        Script.on("whole(3)=1 203(0,0,0)=1 whole(3)=0 301()=0 302(0,0,1)=1 300(5,1,1)=1 whole(4)=0 304(0,0)=1 whole(4)=1 317(0,0)=1 whole(4)=0 322()=0 whole(4)=0 400(5)=1 whole(5)=1");
        Script.then(crossing(), "whole(6)=0 512(400)=1 whole(6)=1 512(1)=2 whole(6)=0 drive(50)=50 whole(7)=1");
        Script.on("700'x=5/a' 701()=1 703(0,0,0,0)=0 704(0,0,0)=1 704(0,0,1)=1 719(0,2,2)=2 whole(8)=1");
    }

    public static void main(String[] args) {
        Script.run(DeskSentencesTest.class);
    }
}
