import java.math.BigInteger;

/** Part STRESS, sentence by sentence, and promises 3 to 5. */
public final class StressSentencesTest {
    /** One turn, from 40 up to 60, and the rests 0, 100, - 10. */
    private static RoadHouse some() {
        return Script.on("400(0)=1 400(100)=1 400(40)=1 400(60)=1 400(-10)=1");
    }

    /** Class 0 bears 10 of 100 and 100 of 50. */
    private static RoadHouse lines(RoadHouse x) {
        return Script.then(x, "406(0,100,10)=1 406(0,50,100)=1");
    }

    /** What a class with lines (100, 10), (50, 100) has as its share of one half turn: 1 / below, or nothing. */
    private static void shareOf(int range, String hot, int below) {
        Script.then(lines(new RoadHouse()), hot + " 400(0)=1 400(" + range + ")=1 409(0,0)=" + (below > 1 ? 1 : 0) + " 409(0,12)=" + below);
    }

    @Says("An empty row, no lines of classes, no history, HOT 1 / 1, costs 0, repeats 1.")
    static void atFirst() {
        Script.on("401()=0 404()=0 403(0)=-2 414(0)=-2 405()=1 417(30)=0 419(0,0)=-1 400(0)=1 400(100)=1 409(0,0)=0 409(0,12)=1 413(0,1000000000)=100000 406(0,100,1)=1 409(0,0)=1 409(0,12)=2 412(0)=1 412(12)=2");
    }

    @Says({"400: False: none such, or the row is full.", "VALUES are - 1,000,000 .. 1,000,000; the ROW has at most 300 of them"})
    static void value() {
        Script.on("400(1000001)=0 400(-1000001)=0 400(MIN)=0 400(MAX)=0 404()=0 400(1000000)=1 400(-1000000)=1 404()=2 414(0)=-1000000 414(1)=1000000 400(1000001)=0 404()=2");
        Script.on("300*400(7)=1 400(7)=0 400(8)=0 404()=1 414(1)=7 418(1)=1 300*400(#)=1 400(300)=0 414(1)=299 404()=2");
    }

    @Says({"A value that is the last point's is dropped.", "goes on in the way from the last but one to the last, it takes the last one's place; otherwise it is a new point"})
    static void points() {
        Script.on("400(5)=1 400(5)=1 404()=1 400(9)=1 400(9)=1 404()=2 400(12)=1 404()=2 403(0)=5 403(1)=12 400(11)=1 404()=3 400(3)=1 404()=3 403(2)=3 400(3)=1 404()=3 400(4)=1 404()=4 403(3)=4 401()=0");
    }

    @Says("if the middle one is neither above the first nor above the last, that is a TURN from b to c, and b and c are points no more")
    static void closing() {
        // as far as the first and as the last: a turn; one less on either side: none
        Script.on("400(0)=1 400(10)=1 400(0)=1 401()=0 400(10)=1 401()=1 404()=2 402(0,0)=10 402(0,3)=0");
        Script.on("400(1)=1 400(10)=1 400(0)=1 400(10)=1 401()=0 404()=4");
        Script.on("400(0)=1 400(10)=1 400(0)=1 400(9)=1 401()=0 400(10)=1 401()=1 402(0,4)=5");
        // one value closes two turns; with three points there is none
        Script.on("400(0)=1 400(100)=1 400(20)=1 400(80)=1 400(40)=1 400(60)=1 401()=0 400(-10)=1 401()=2 402(0,1)=40 402(0,2)=60 402(1,1)=20 402(1,2)=80 402(0,4)=7 402(1,4)=7 404()=3 405()=1");
    }

    @Says({"402: 0 its range, 1 the lesser end, 2 the greater one, 3 whether it went up (1 or 0), 4 how many values the row had then, with the one that closed it.", "402: BAD: none such."})
    static void turn() {
        Script.then(some(), "401()=1 402(0,0)=20 402(0,1)=40 402(0,2)=60 402(0,3)=1 402(0,4)=5 402(0,5)=-1 402(0,-1)=-1 402(1,0)=-1 402(-1,0)=-1 402(MAX,0)=-1");
        Script.on("402(0,0)=-1 400(5)=1 400(5)=1 400(-5)=1 400(4)=1 400(-4)=1 400(20)=1 401()=1 402(0,3)=0 402(0,1)=-4 402(0,2)=4 402(0,4)=6");
    }

    @Says("403: NONE (which may also be a value): none such.")
    static void rest() {
        Script.then(some(), "404()=3 403(0)=0 403(1)=100 403(2)=-10 403(3)=-2 403(-1)=-2 403(MAX)=-2 400(-2)=1 403(3)=-2 403(4)=-2");
    }

    @Says({"406: False: no such class, the range is not 1 .. 2,000,000 or not falling, cycles are not 1 .. 1,000,000 or not rising, there are 4.", "CLASSES are 0 .. 7, with at most 4 LINES each"})
    static void row() {
        Script.on("406(-1,9,9)=0 406(8,9,9)=0 406(0,0,9)=0 406(0,2000001,9)=0 406(0,9,0)=0 406(0,9,1000001)=0 406(0,-1,-1)=0 406(0,2000000,1)=1 406(0,2000000,2)=0 406(0,1999999,1)=0 406(0,1999999,0)=0 406(0,1999999,2)=1 406(0,1999998,2)=0"
            + " 406(0,1999999,3)=0 406(0,2,3)=1 406(0,1,1000000)=1 406(0,0,1000001)=0 406(7,1,1000000)=1 406(7,1,1000000)=0");
        Script.on("4*406(1,50+#*-10,1+#)=1 406(1,9,99)=0 406(2,9,99)=1 400(0)=1 400(20)=1 409(1,12)=8 400(0)=1 409(1,12)=4");
    }

    @Says({"407: A class gets a cut-off, 0 .. 2,000,000.", "407: False: none such.", "up to and including the CUT-OFF (0 at first)"})
    static void cutOff() {
        Script.then(lines(some()), "407(-1,0)=0 407(8,0)=0 407(0,-1)=0 407(0,2000001)=0 409(0,12)=10 407(0,99)=1 409(0,12)=10 407(0,100)=1 409(0,12)=20 407(0,109)=1 409(0,12)=20 407(0,110)=1 409(0,12)=1 409(0,0)=0 407(0,2000000)=1 407(0,2000001)=0 409(0,12)=1 407(7,0)=1 407(0,0)=1 409(0,12)=10");
        shareOf(60, "407(0,59)=1", 20);
        shareOf(60, "407(0,60)=1", 1);
    }

    @Says({"408: Another HOT: above / below, both 1 .. 1,000, above not less.", "408: False: none such.", "A range is first multiplied by HOT (a fraction, 1 / 1 at first; cut off)."})
    static void hot() {
        Script.on("408(0,0)=0 408(1,0)=0 408(1,2)=0 408(999,1000)=0 408(1001,1)=0 408(1001,1001)=0 408(1000,1001)=0 408(-1,-1)=0 408(1,1)=1 408(1000,1000)=1 408(1000,1)=1");
        shareOf(48, "408(26,25)=1", 1);
        shareOf(48, "408(25,24)=1", 200);
        shareOf(49, "408(1000,999)=1", 1);
        shareOf(99, "408(1000,999)=1", 20);
        shareOf(25, "408(2,1)=1 408(2,3)=0", 200);
        // the cut-off is of ranges as they are then
        shareOf(30, "408(2,1)=1 407(0,59)=1", 20);
        shareOf(30, "408(2,1)=1 407(0,60)=1", 1);
    }

    @Says({"A class BEARS the cycles of its last line with a range not below; of ranges above the first line's those of the first one.", "It bears without end (the share is none) below the last line"})
    static void bears() {
        shareOf(49, "", 1);
        shareOf(50, "", 200);
        shareOf(51, "", 20);
        shareOf(99, "", 20);
        shareOf(100, "", 20);
        shareOf(101, "", 20);
        shareOf(1000000, "", 20);
        Script.then(some(), "409(5,0)=0 409(5,12)=1 406(5,20,7)=1 409(5,0)=2 409(5,12)=7");
    }

    @Says({"409: BAD: no such class, part.", "TOLD by parts: 0 .. 11 are the limbs of 32 bits, without sign, of its upper part, the lowest first, 12 .. 23 those of its lower one."})
    static void share() {
        RoadHouse x = Script.then(lines(some()), "409(-1,0)=-1 409(8,0)=-1 409(0,-1)=-1 409(0,24)=-1 409(7,0)=0 409(7,12)=1 409(0,0)=1 409(0,11)=0 409(0,12)=10 409(0,13)=0 409(0,23)=0 409(0,MAX)=-1");
        // by two primes of six digits the lower part has more than 32 bits
        x = Script.then(new RoadHouse(), "400(0)=1 400(9)=1 406(0,9,999983)=1 406(1,9,999979)=1 406(2,9,999961)=1");
        BigInteger p = BigInteger.valueOf(999983);
        BigInteger q = BigInteger.valueOf(999979);
        BigInteger r = BigInteger.valueOf(999961);
        BigInteger upper = p.multiply(q).add(p.multiply(r)).add(q.multiply(r));
        BigInteger lower = p.multiply(q).multiply(r).shiftLeft(1);
        BigInteger both = upper.gcd(lower);
        for (int part = 0; part < 24; part++) {
            BigInteger of = (part < 12 ? upper : lower).divide(both).shiftRight(32 * (part % 12));
            Script.due("joined 3, part " + part, x.act(410, 3, part, 0, 0, 0), of.longValue() & 0xFFFFFFFFL);
            Script.due("total, part " + part, x.act(412, part, 0, 0, 0, 0), of.longValue() & 0xFFFFFFFFL);
        }
    }

    @Says({"410: The sum of the shares of the classes 0 .. lanes - 1, by parts.", "410: BAD: lanes are not 1 .. 4, no such part."})
    static void joined() {
        Script.then(lines(some()), "410(0,0)=-1 410(5,0)=-1 410(-1,0)=-1 410(1,-1)=-1 410(1,24)=-1 410(1,12)=10 410(4,12)=10 406(3,110,5)=1 410(3,12)=10 410(4,12)=5 410(4,0)=1 406(4,10,1)=1 410(4,12)=5");
    }

    @Says({"411: The row comes n times in all, 1 .. 1,000,000.", "411: False: none such."})
    static void repeats() {
        Script.then(lines(some()), "411(0)=0 411(1000001)=0 411(-1)=0 411(MIN)=0 412(0)=1 412(12)=10 411(7)=1 412(0)=7 412(12)=10 411(1000001)=0 411(0)=0 412(0)=7 411(1000000)=1 412(0)=100000 412(12)=1 411(1)=1 412(0)=1 412(12)=10 411(4)=1 409(0,0)=1 410(4,0)=1");
    }

    @Says({"412: The sum of the shares of the classes 0 .. 3, as often as the row comes, by parts.", "412: BAD: no such part."})
    static void total() {
        Script.then(lines(some()), "412(-1)=-1 412(24)=-1 412(MAX)=-1 412(23)=0 412(11)=0 412(0)=1 412(12)=10 406(3,110,5)=1 412(0)=1 412(12)=5 406(4,10,1)=1 412(0)=1 412(12)=5 411(3)=1 412(0)=3 412(12)=5 411(5)=1 412(0)=1 412(12)=1 418(0)=1 412(0)=0 412(12)=1");
    }

    @Says({"413: The last whole year, 0 .. 100,000, up to which the share of a class, if the row comes so often per year (1 .. 1,000,000,000), is below 1.", "413: BAD: none such."})
    static void years() {
        Script.then(lines(some()), "413(-1,1)=-1 413(8,1)=-1 413(0,0)=-1 413(0,-1)=-1 413(0,1000000001)=-1 413(0,1)=9 413(0,9)=1 413(0,10)=0 413(0,1000000000)=0 413(7,1000000000)=100000 411(5)=1 413(0,1)=9 413(0,4)=2 413(0,5)=1");
        Script.on("400(0)=1 400(9)=1 406(0,9,50000)=1 406(1,9,50001)=1 406(2,9,1000000)=1 413(0,1)=99999 413(1,1)=100000 413(2,1)=100000 413(2,19)=100000 413(2,20)=99999 413(2,2000000)=0 413(2,1999999)=1");
    }

    @Says("414: NONE: it is empty, or another number.")
    static void span() {
        Script.then(some(), "414(0)=-10 414(1)=100 414(2)=-2 414(-1)=-2 418(0)=1 414(0)=-2 414(1)=-2 400(-5)=1 414(0)=-5 414(1)=-5");
    }

    @Says({"415: a half one counting half (cut off in the end)", "415: BAD: n is below 0."})
    static void bolt() {
        Script.then(some(), "415(-1)=-1 415(MIN)=-1 415(0)=2 415(20)=2 415(21)=1 415(100)=1 415(101)=0 415(110)=0 415(111)=0 408(2,1)=1 415(21)=1 415(220)=0");
        Script.on("400(0)=1 400(100)=1 400(20)=1 400(80)=1 400(40)=1 400(60)=1 400(-10)=1 401()=2 415(0)=3 415(20)=3 415(21)=2 415(60)=2 415(61)=1 415(101)=0");
        Script.on("415(0)=0 400(0)=1 415(0)=0 400(5)=1 415(0)=0 400(0)=1 415(5)=1 415(6)=0");
    }

    @Says({"416: costs so many cents, 0 .. 1,000,000.", "416: False: none such."})
    static void cost() {
        Script.on("416(-1,0)=0 416(2,0)=0 416(0,-1)=0 416(0,1000001)=0 416(1,1000001)=0 416(0,1000000)=1 416(1,1000000)=1 416(0,0)=1 416(1,0)=1 416(0,1)=1 416(1,1)=1 417(2)=2 416(1,1000001)=0 416(0,-1)=0 417(2)=2");
    }

    @Says({"417: The plan for years 1 .. n (1 .. 30): in which of them, before n, to inspect", "417: of several the one with the fewest, of these the one that is earliest where they differ first: bit y for year y.", "417: BAD: another n."})
    static void inspect() {
        Script.on("417(0)=-1 417(31)=-1 417(-1)=-1 417(MAX)=-1 417(1)=0 417(30)=0 416(1,1)=1 417(1)=0 417(2)=2 417(3)=6 417(30)=1073741822 416(0,1)=1 417(2)=2 417(3)=6 416(0,2)=1 417(2)=0 417(3)=2 417(4)=4 417(5)=10 416(0,1000000)=1 417(30)=0");
    }

    @Says({"418: The detail is mended in a year, 0 .. 10,000, not before the last one: false, if not, or there are 20 lines of history."})
    static void mend() {
        Script.on("418(-1)=0 418(10001)=0 419(0,0)=-1 418(5)=1 418(4)=0 418(5)=1 418(10001)=0 418(-1)=0 418(10000)=1 418(9999)=0 419(3,0)=-1 17*418(10000)=1 418(10000)=0 419(19,0)=10000 419(20,0)=-1 400(1)=1 418(10000)=0 404()=1");
    }

    @Says({"The row begins anew with a MEND: it is empty then, with no turns and rests; all that was told of classes, HOT, costs, repeats, cracks stays; the HISTORY has a line more.", "419: 3 the greatest range of a turn (0 without), as they were then.", "419: BAD: none such."})
    static void history() {
        RoadHouse x = Script.then(lines(some()), "408(2,1)=1 407(0,10)=1 416(0,1)=1 416(1,1)=1 411(7)=1");
        Script.due("crack", x.crack(2, 3, 1), -1);
        Script.then(x, "419(0,0)=-1 418(3)=1 401()=0 404()=0 405()=1 403(0)=-2 419(0,0)=3 419(0,1)=1 419(0,2)=3 419(0,3)=20 419(0,4)=-1 419(0,-1)=-1 419(1,0)=-1 419(-1,0)=-1 418(3)=1 419(1,0)=3 419(1,1)=0 419(1,2)=0 419(1,3)=0 419(0,3)=20"
            + " 400(0)=1 400(50)=1 409(0,12)=20 412(0)=7 412(12)=20 417(2)=2 400(45)=1 409(0,12)=20 400(-5)=1 402(0,0)=-1 419(0,1)=1");
        // cut-offs and costs as they were: a range of 60 counts for nothing, and an inspection is too dear
        Script.then(lines(new RoadHouse()), "407(0,60)=1 416(0,2)=1 416(1,1)=1 417(2)=0 418(0)=1 417(2)=0 417(3)=2 400(0)=1 400(60)=1 409(0,0)=0 400(0)=1 400(61)=1 409(0,12)=20 418(1)=1 400(0)=1 400(60)=1 409(0,0)=0");
        Script.on("400(0)=1 400(2)=1 400(1)=1 400(2)=1 401()=1 404()=2 418(9)=1 419(0,3)=1 419(0,1)=1 419(0,2)=2");
        Script.due("crackAt", x.crackAt(0), 2.0);
    }

    @Says({"P3: above the first line and at the last one as they say, below that -1 (so for what is no number; an infinite one is above the first line)", "P3: -1: no such class, no lines, no such range.", "P3: (HOT and the cut-off count for nothing.)"})
    static void logJoin() {
        RoadHouse x = Script.then(lines(new RoadHouse()), "406(1,70,8)=1 408(2,1)=1 407(0,1000)=1");
        double[][] due = {{0, 100, 10}, {0, 100.5, 10}, {0, 99, 11.8}, {0, 75, 55}, {0, 50, 100}, {0, 49.99, -1}, {0, 0, -1}, {0, -100, -1}, {0, Double.NaN, -1}, {0, Double.POSITIVE_INFINITY, 10}, {0, Double.NEGATIVE_INFINITY, -1},
            {-1, 100, -1}, {8, 100, -1}, {2, 100, -1}, {7, Double.POSITIVE_INFINITY, -1}, {1, 70, 8}, {1, 71, 8}, {1, 69.5, -1}};
        for (double[] row : due) {
            Script.due("logJoin(" + row[0] + ", " + row[1] + ")", x.logJoin((int) row[0], row[1]), row[2]);
        }
        Script.then(x, "406(0,20,1000)=1 406(0,10,1001)=1");
        Script.due("between the second and the third", x.logJoin(0, 35), 100 + 900.0 * 15 / 30);
        Script.due("at the third", x.logJoin(0, 20), 1000.0);
        Script.due("at the fourth", x.logJoin(0, 10), 1001.0);
        Script.due("below the fourth", x.logJoin(0, 9), -1.0);
    }

    @Says({"P4: A crack of a size grows (steps 1 .. 100 a year): years until it is not below another size.", "P4: -1: not 0 < from < to < 1,000,000, no such steps, or not within 100 years."})
    static void crack() {
        // a turn of a million, and half turns of as much: the rate is 1.5
        RoadHouse x = Script.on("400(0)=1 400(1000000)=1 400(0)=1 400(1000000)=1 401()=1 404()=2");
        double[][] due = {{0, 2, 1, -1}, {-1, 2, 1, -1}, {1, 1, 1, -1}, {2, 1, 1, -1}, {1, 1000000, 1, -1}, {1, Double.NaN, 1, -1}, {Double.NaN, 2, 1, -1}, {1, Double.POSITIVE_INFINITY, 1, -1}, {1, 2, 0, -1}, {1, 2, -1, -1}, {1, 2, 101, -1},
            {1, 2, 1, 1}, {1, 2.5, 1, 1}, {1, 2.5000001, 1, 2}, {1, 1.0000001, 100, 1}, {1, 3.0625, 2, 1}, {1, 3.07, 2, 2}, {1, 999999, 1, 16}, {0.000001, 1, 1, 16}};
        for (double[] row : due) {
            Script.due("crack(" + row[0] + ", " + row[1] + ", " + row[2] + ")", x.crack(row[0], row[1], (int) row[2]), (int) row[3]);
        }
        RoadHouse still = new RoadHouse();
        Script.due("never", still.crack(1, 2, 5), -1);
        // a half turn of 200,000 grows by 0.02 a year: 1.02 to the hundredth is 7.2446..
        RoadHouse slow = Script.on("400(0)=1 400(200000)=1");
        Script.due("within 100 years", slow.crack(1, 7.2446, 1), 100);
        Script.due("not within 100 years", slow.crack(1, 7.2447, 1), -1);
    }

    @Says({"P5: -1: nothing was; no such year.", "P5: The size behind so many years (0 .. 100), by what was told to crack() last, and the row now."})
    static void crackAt() {
        RoadHouse x = Script.on("400(0)=1 400(1000000)=1");
        Script.due("nothing told", x.crackAt(0), -1.0);
        Script.due("refused", x.crack(1, 1, 1), -1);
        Script.due("nothing told", x.crackAt(0), -1.0);
        Script.due("crack", x.crack(4, 5, 1), 1);
        double[][] due = {{-1, -1}, {101, -1}, {Integer.MIN_VALUE, -1}, {Integer.MAX_VALUE, -1}, {0, 4}, {1, 6}, {2, 9}};
        for (double[] row : due) {
            Script.due("crackAt(" + row[0] + ")", x.crackAt((int) row[0]), row[1]);
        }
        Script.due("refused ones are not told", x.crack(3, 5, 101), -1);
        Script.due("refused ones are not told", x.crack(3, 1000000, 1), -1);
        Script.due("refused ones are not told", x.crack(3, 5, 0), -1);
        Script.due("refused ones are not told", x.crack(0, 5, 1), -1);
        Script.due("refused ones are not told", x.crack(3, 3, 1), -1);
        Script.due("as before", x.crackAt(1), 6.0);
        Script.then(x, "418(0)=1");
        Script.due("the row now", x.crackAt(100), 4.0);
        Script.due("not within 100 years", x.crack(7, 8, 2), -1);
        Script.due("it is told all the same", x.crackAt(100), 7.0);
        Script.then(x, "400(0)=1 400(1000000)=1");
        Script.due("two steps a year", x.crackAt(1), 7 * 1.25 * 1.25);
    }

    @Says("P4: Other sizes and steps than those that were told last take the last told ones' place (also when 100 years are not enough).")
    static void crackTold() {
        RoadHouse x = Script.on("400(0)=1 400(1000000)=1");
        Script.due("crack", x.crack(4, 5, 1), 1);
        Script.due("as told", x.crackAt(0), 4.0);
        Script.due("crack", x.crack(8, 9, 2), 1);
        Script.due("as told", x.crackAt(0), 8.0);
        Script.due("by two steps", x.crackAt(1), 12.5);
        Script.then(x, "418(0)=1");
        Script.due("not within 100 years", x.crack(3, 4, 1), -1);
        Script.due("as told", x.crackAt(0), 3.0);
        Script.then(x, "400(0)=1 400(1000000)=1");
        Script.due("by one step", x.crackAt(1), 4.5);
        Script.due("refused", x.crack(9, 8, 5), -1);
        Script.due("refused", x.crack(9, 10, 101), -1);
        Script.due("as told before", x.crackAt(1), 4.5);
    }

    public static void main(String[] args) {
        Script.run(StressSentencesTest.class);
    }
}
