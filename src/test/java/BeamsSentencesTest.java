/** Part BEAMS, sentence by sentence. */
public final class BeamsSentencesTest {
    private static void reads(String text, long want) {
        RoadHouse x = Script.on("200'S7x1S' 201()=1 207(0,0,2)=0 212(0,5)=1 200'" + text + "' 201()=" + want);
        if (want < 0) {
            Script.then(x, "214(0)=1 214(1)=1 214(4)=7 213(0,1,1,0)=5 200'F1x1.' 201()=1");
        } else {
            Script.then(x, "214(0)=" + want + " 214(1)=0 213(0,1,1,0)=" + (x.act(205, 0, 0, 0, 0, 0) == 0 ? 0 : -1) + " 201()=-1");
        }
    }

    @Says("As behind the text \"F1x1.\" (its last sign is a point).")
    static void atFirst() {
        Script.on("214(0)=1 214(1)=0 214(2)=0 214(3)=1 214(4)=1 205()=0 203(0,0,1)=1 203(0,1,1)=1 203(1,0,0)=0 203(1,1,0)=0 204(0,0,0)=0 204(0,1,0)=0 201()=-1 207(2,0,4)=0 208(0,0,4,0)=1 208(0,0,4,1)=3");
    }

    @Says({"200: A sign of 32 .. 126 is collected, at most 50.", "200: False: another one, no room."})
    static void unit() {
        Script.on("200(31)=0 200(127)=0 200(-1)=0 200(MIN)=0 200(MAX)=0 200(339)=0 200'F2x2.' 201()=1 25*200(32)=1 25*200(126)=1 200(83)=0 200(32)=0 201()=-1 200'S1x1S' 201()=1 49*200(83)=1 200(31)=0 200(83)=1 200(83)=0 201()=-2");
    }

    @Says({"201: how many beams; nothing is settled, no rows are told.", "201: (if it ends too early, the one behind the last; of a number that is too great, its first digit)",
        "the row of beams stays as it is then (what was collected is gone all the same)", "A TEXT of a row: a node, and 1 to 3 times a beam and a node."})
    static void read() {
        reads("", -1);
        reads("S", -2);
        reads("F1x1.", 1);
        reads("S1x1S1x1S", 2);
        reads("S1x1S1x1S1x1S", 3);
        reads("S1x1S1x1S1x1S1x1S", -14);
        reads("S1x1S1x1S1x1S.", -14);
        reads("S1x1", -5);
        reads("S1x1h", -6);
        reads("S1x1S1", -7);
        reads("S1x1S1x1", -9);
        reads("S12x", -5);
        reads("S12", -4);
        reads("Sh", -3);
    }

    @Says({"A node is . (not held), S (in height), T (in turning) or F (both).", "A beam is h (a hinge at its left end) or nothing, its length, x, its stiffness, h (at its right end) or nothing."})
    static void signs() {
        reads(".h2x3hT", 1);
        reads("Sh2x3F", 1);
        reads("T2x3hS", 1);
        reads("s2x3S", -1);
        reads("H2x3S", -1);
        reads("S2X3S", -3);
        reads("S2y3S", -3);
        reads("Shh2x3S", -3);
        reads("S2hx3S", -3);
        reads("S2xh3S", -4);
        reads("S2x3hhS", -6);
        reads("S2x3f", -5);
        reads("SS2x3S", -2);
        Script.on("200'.h2x3hT' 201()=1 203(0,0,0)=0 203(0,1,0)=0 203(1,0,0)=0 203(1,1,0)=1 204(0,0,1)=1 204(0,1,1)=1 214(2)=2 214(3)=0 200'S2x3hF' 201()=1 203(0,0,0)=1 203(0,1,0)=0 203(1,0,0)=1 203(1,1,0)=1 204(0,0,1)=0 204(0,1,1)=1");
    }

    @Says({"Numbers have one or two digits, no 0 in front (two digits are taken, if there are two: a third one is a wrong sign).", "No blanks.", "with a LENGTH L 1 .. 12 and a STIFFNESS E 1 .. 12"})
    static void numbers() {
        reads("S1x12S", 1);
        reads("S12x1S", 1);
        reads("S9x10S", 1);
        reads("S9x9S", 1);
        reads("F9x9hS9x9hS9x9F", 3);
        Script.on("200'S9x9hT9x9.' 201()=2 214(4)=18 214(2)=1 204(0,1,1)=1 203(1,1,1)=1 200'S9x12S12x9S' 201()=2 214(4)=21 214(3)=3");
        // a half of nine at each end: nine by four, and nine cubed by 48 times nine
        Script.on("200'S9x9S' 201()=1 207(0,0,2)=0 207(2,0,2)=1 208(0,0,2,0)=9 208(0,0,2,1)=4 208(1,0,2,0)=27 208(1,0,2,1)=16");
        reads("S13x1S", -2);
        reads("S1x13S", -4);
        reads("S99x1S", -2);
        reads("S20x1S", -2);
        reads("S0x1S", -2);
        reads("S01x1S", -2);
        reads("S1x0S", -4);
        reads("S1x01S", -4);
        reads("S123x1S", -4);
        reads("S1x123S", -6);
        reads("S991x1S", -2);
        reads("Sx1S", -2);
        reads("S1xS", -4);
        reads(" S1x1S", -1);
        reads("S 1x1S", -2);
        reads("S1 x1S", -3);
        reads("S1x 1S", -4);
        reads("S1x1 S", -5);
        reads("S1x1S ", -6);
    }

    @Says({"202: throws ArrayIndexOutOfBoundsException", "202: False: no such numbers.", "202: A beam that there is not throws, before all else (so below)."})
    static void member() {
        Script.on("200'S1x1S2x1S' 201()=2 202(-1,1,1)!index 202(2,1,1)!index 202(2,0,0)!index 202(-1,13,1)!index 202(MIN,1,1)!index 202(MAX,1,1)!index 202(0,0,1)=0 202(0,13,1)=0 202(0,1,0)=0 202(0,1,13)=0 202(0,-1,-1)=0"
            + " 214(4)=3 202(1,12,12)=1 214(4)=13 202(0,1,1)=1 202(1,0,1)=0 202(1,1,13)=0 214(4)=13");
    }

    @Says({"203: throws ArrayIndexOutOfBoundsException", "203: A node is held (or not) in height (axis 0), in turning (1): whether it was so before.", "203: False also: another axis."})
    static void support() {
        Script.on("203(-1,0,0)!index 203(2,0,0)!index 203(2,5,0)!index 203(MIN,0,1)!index 203(0,2,0)=0 203(0,-1,0)=0 203(0,0,1)=1 203(0,1,0)=1 203(0,1,0)=0 203(1,0,7)=0 203(1,0,-1)=1 214(3)=2 203(1,0,0)=1 203(1,0,0)=0 214(3)=1 203(0,2,0)=0 203(0,0,1)=1");
        Script.on("203(0,2,1)=0 203(1,0,0)=0 214(3)=1 212(0,9)=1 203(0,1,0)=1 213(0,1,1,0)=-1 203(0,1,1)=0 213(0,1,1,0)=9");
        Script.on("200'F1x1F1x1S' 201()=2 203(0,2,0)=0 203(0,-1,0)=0 203(1,-1,0)=0 203(1,0,1)=1 203(0,1,1)=1 203(1,2,0)=0 203(2,0,1)=1");
    }

    @Says({"204: throws ArrayIndexOutOfBoundsException", "204: whether it had one.", "204: False also: another end."})
    static void hinge() {
        Script.on("204(-1,0,0)!index 204(1,0,0)!index 204(1,5,0)!index 204(0,2,1)=0 204(0,-1,1)=0 214(2)=0 204(0,0,1)=0 204(0,0,3)=1 214(2)=1 204(0,1,0)=0 204(0,1,-5)=0 214(2)=2 204(0,0,0)=1 204(0,0,0)=0 214(2)=1");
        Script.on("200'F1x1F1x1h.' 201()=2 204(0,2,1)=0 204(1,-1,1)=0 204(1,0,0)=0 204(0,1,0)=0 204(1,1,1)=1 204(0,3,0)=0 204(1,1,1)=1 204(1,0,1)=0 204(0,1,0)=0 214(2)=2");
    }

    @Says({"205: 0: the row is not loose; else how many nodes are loose.", "nodes are loose that can move or turn then (for turning: of ends without a hinge)"})
    static void loose() {
        Script.on("206(0)=-1 200'.1x1.' 201()=1 205()=2 206(0)=0 206(1)=1 206(2)=-1 206(-1)=-1 206(MIN)=-1 200'S1x1S' 201()=1 205()=0 206(0)=-1 200'S1x1.' 201()=1 205()=2 200'T1x1T' 201()=1 205()=2 200'T1x1S' 201()=1 205()=0");
        Script.on("200'Sh4x1hS' 201()=1 205()=0 200'F4x1h.1x1.' 201()=2 205()=2 206(0)=1 206(1)=2 206(2)=-1 200'Fh4x1h.h4x1hF' 201()=2 205()=1 206(0)=1 206(1)=-1 200'F4x1h.h4x1F' 201()=2 205()=0 200'Fh4x1h.h4x1F' 201()=2 205()=0");
        // the last beam alone turns; then none does
        Script.on("200'F4x1S2x1hS3x1.' 201()=3 205()=2 206(0)=2 206(1)=3 203(3,0,1)=0 205()=0 206(0)=-1 203(3,0,0)=1 203(2,1,1)=0 205()=0 204(2,0,1)=0 205()=1 206(0)=3");
    }

    @Says({"207: its number", "207: (it must be so when the row is told; as long as it is not, 208 and 209 answer as for none such, and the row stays)", "207: The same told again is a new row.", "207: BAD: none such; there are 8."})
    static void row() {
        Script.on("207(-1,0,0)=-1 207(4,0,0)=-1 207(0,-1,0)=-1 207(0,1,0)=-1 207(0,0,-1)=-1 207(0,0,5)=-1 207(3,1,0)=-1 207(3,-1,0)=-1 207(3,2,0)=-1 207(3,0,1)=-1 207(3,0,-1)=-1 214(1)=0 207(3,0,0)=0 207(3,0,0)=1 207(0,0,0)=2"
            + " 207(1,0,4)=3 207(2,0,4)=4 3*207(2,0,4)=5+# 207(2,0,4)=-1 207(3,0,0)=-1 214(1)=8");
        Script.on("200'F4x1S' 201()=1 207(3,1,0)=0 208(0,0,4,0)=1 208(0,0,2,0)=5 208(0,0,2,1)=16 203(1,0,0)=1 205()=0 208(0,0,2,0)=-1 208(0,0,2,-1)=-2 209(0,1,0)=-1 209(0,1,-1)=-2 214(1)=1 207(3,1,0)=-1 207(0,0,0)=1 203(1,0,1)=0 208(0,0,2,0)=5 209(0,1,-1)=1");
    }

    @Says({"207: Rows stay, and are those of the beams as they are, whatever 202 to 204 change.", "207: (of the shear at a load's own place: just before it; at places 0 and 4 as within the beam)"})
    static void rowsStay() {
        Script.on("200'S8x3S' 201()=1 207(0,0,2)=0 208(0,0,2,0)=2 202(0,4,5)=1 208(0,0,2,0)=1 203(1,1,1)=0 208(0,0,2,0)=5 208(0,0,2,1)=8 204(0,1,1)=0 208(0,0,2,0)=1 208(0,0,2,1)=1 203(1,0,0)=1 208(0,0,2,0)=-1 203(1,0,1)=0 208(0,0,2,0)=1");
        RoadHouse x = Script.on("200'S8x3S' 201()=1 207(1,0,2)=0 207(1,0,0)=1 207(1,0,4)=2");
        Script.then(x, "208(0,0,2,-1)=1 208(0,0,2,0)=1 208(0,0,2,1)=2 208(0,0,1,-1)=-1 208(0,0,1,1)=4 208(0,0,3,-1)=1 208(0,0,3,1)=4 208(0,0,0,-1)=0 208(0,0,0,1)=1 208(0,0,4,-1)=0");
        Script.then(x, "208(1,0,0,-1)=0 208(1,0,2,-1)=1 208(1,0,2,1)=2 208(1,0,1,0)=3 208(1,0,1,1)=4 208(2,0,4,-1)=0 208(2,0,2,-1)=-1 208(2,0,3,0)=3 208(2,0,3,1)=4 208(2,0,0,-1)=0");
    }

    @Says({"208: BAD (part - 1: NONE): none such (a part below - 1, too); the row of beams is loose; of a reaction: that node is not held now.", "(0 beyond the last; a part below - 1 is none)", "told in least terms (0 as 0 / 1)", "PLACES of a beam are 0 .. 4: so many quarters of its length behind its left end."})
    static void at() {
        RoadHouse x = Script.on("200'S8x3S' 201()=1 208(0,0,0,0)=-1 208(0,0,0,-1)=-2 207(0,0,2)=0 208(-1,0,0,0)=-1 208(1,0,0,0)=-1 208(1,0,0,-1)=-2 208(-1,0,0,-1)=-2 208(0,-1,0,0)=-1 208(0,1,0,0)=-1 208(0,1,0,-1)=-2"
            + " 208(0,0,-1,0)=-1 208(0,0,5,0)=-1 208(0,0,5,-1)=-2 208(0,0,2,-2)=-1 208(0,0,2,MIN)=-1");
        Script.then(x, "208(0,0,1,-1)=1 208(0,0,1,0)=1 208(0,0,1,1)=1 208(0,0,1,2)=0 208(0,0,1,3)=0 208(0,0,1,MAX)=0 208(0,0,0,-1)=0 208(0,0,0,0)=0 208(0,0,0,1)=1 203(0,0,0)=1 208(0,0,1,0)=-1 208(0,0,1,-1)=-2 208(0,0,1,5)=-1 203(0,0,1)=0 208(0,0,1,0)=1");
    }

    @Says({"209: above 0 (sign 1), or below it (- 1; told as above 0), by parts.", "209: BAD (part - 1: NONE): as above; another sign."})
    static void area() {
        RoadHouse x = Script.on("200'S8x3S' 201()=1 209(0,1,0)=-1 209(0,1,-1)=-2 207(1,0,2)=0 209(0,0,0)=-1 209(0,0,-1)=-2 209(0,2,0)=-1 209(0,-2,-1)=-2 209(1,1,0)=-1 209(-1,1,-1)=-2 209(0,1,-2)=-1");
        Script.then(x, "209(0,1,-1)=1 209(0,1,0)=4 209(0,1,1)=3 209(0,-1,-1)=1 209(0,-1,0)=1 209(0,-1,1)=3 209(0,1,2)=0 207(0,0,2)=1 209(1,1,0)=8 209(1,1,1)=1 209(1,-1,-1)=0 209(1,-1,0)=0 209(1,-1,1)=1 203(1,0,0)=1 209(0,1,0)=-1 209(0,1,-1)=-2");
        // at a clamped end the moments are - 1, - 2, - 3, - 4: all below 0
        Script.on("200'F4x1.' 201()=1 207(0,0,0)=0 208(0,0,3,-1)=-1 208(0,0,3,0)=3 209(0,-1,-1)=1 209(0,-1,0)=8 209(0,-1,1)=1 209(0,1,-1)=0");
    }

    @Says("210: False also: another row, loose.")
    static void turned() {
        Script.on("210(0)=0 207(2,0,3)=0 207(0,0,3)=1 207(1,0,3)=2 207(3,0,0)=3 210(0)=1 210(1)=0 210(2)=0 210(3)=0 210(4)=0 210(-1)=0 203(0,0,0)=1 210(0)=0 203(0,0,1)=0 203(0,1,0)=1 210(0)=0 203(1,1,1)=0 210(0)=1");
    }

    @Says("211: False also: loose.")
    static void sums() {
        Script.on("211()=1 203(0,1,0)=1 211()=0 203(1,0,1)=0 211()=1 200'T1x1T' 201()=1 211()=0 200'S1x1S2x2hS3x3S' 201()=3 211()=1");
    }

    @Says({"212: is settled by v, - 1,000 .. 1,000 (0 at first, and when it is not held any more).", "212: False: none such."})
    static void settled() {
        Script.on("212(-1,1)=0 212(2,1)=0 212(1,1)=0 212(0,1001)=0 212(0,-1001)=0 212(MIN,0)=0 213(0,1,1,-1)=0 212(0,1000)=1 213(0,1,1,0)=1000 212(0,1001)=0 213(0,1,1,0)=1000 212(0,-1000)=1 213(0,1,1,-1)=-1 213(1,1,1,-1)=-1 213(1,1,1,0)=1000"
            + " 203(1,0,1)=0 213(1,1,1,0)=0 213(0,1,1,0)=1000 203(0,0,0)=1 212(0,5)=0 203(0,0,1)=0 213(0,1,1,0)=0 212(1,4)=1 203(1,1,1)=0 213(1,1,1,0)=4");
    }

    @Says({"213: times above / below (above - 1,000 .. 1,000, below 1 .. 1,000), by parts.", "213: BAD (part - 1: NONE): none such; loose."})
    static void move() {
        RoadHouse x = Script.on("200'S4x1.4x1S' 201()=2 212(2,10)=1 213(1,1,1,0)=5 213(1,1,1,1)=1 213(1,-3,10,-1)=-1 213(1,-3,10,0)=3 213(1,-3,10,1)=2 213(1,1000,1000,0)=5 213(1,-1000,1,0)=5000 213(1,0,5,-1)=0 213(1,0,5,1)=1 213(1,1,1,2)=0 213(0,1,1,0)=0 213(2,1,2,0)=5");
        Script.then(x, "213(-1,1,1,0)=-1 213(3,1,1,0)=-1 213(3,1,1,-1)=-2 213(1,1001,1,0)=-1 213(1,-1001,1,-1)=-2 213(1,1,0,0)=-1 213(1,1,1001,-1)=-2 213(1,1,-1,0)=-1 213(1,1,1,-2)=-1 203(0,0,0)=1 213(2,1,1,0)=-1 213(2,1,1,-1)=-2 203(0,0,1)=0 213(2,1,1,0)=10");
    }

    @Says("214: BAD: another number.")
    static void count() {
        Script.on("214(5)=-1 214(-1)=-1 214(MAX)=-1 200'Sh12x1h.h11x1F10x1hS' 201()=3 214(0)=3 214(1)=0 214(2)=4 214(3)=3 214(4)=33");
    }

    @Says("(A load at place 0 or 4 stands at the node, and has no part in the shears of the beam's ends, so far as these are told.)")
    static void loadAtNode() {
        Script.on("200'S2x1S2x1S' 201()=2 207(3,1,0)=0 207(1,0,4)=1 207(1,1,0)=2 208(0,0,4,0)=1 208(0,1,0,0)=1 208(0,1,0,1)=1 208(1,0,4,-1)=0 208(2,1,0,-1)=0 208(1,1,0,-1)=0");
    }

    @Says({"At a node that is not held in height the shear to the right (0 behind the last beam) is that to the left (0 before the first one), less one if a load stands at it; at one that is not held in turning the moments to the left and right of it (0 where there is no beam, or at a hinge) are the same."})
    static void nodes() {
        String rows = "207(1,0,4)=0 207(1,1,0)=1 207(0,0,4)=2 207(0,1,0)=3 ";
        Script.on("200'S2x1.2x1S' 201()=2 " + rows + "208(0,0,4,-1)=1 208(0,0,4,1)=2 208(1,0,4,-1)=-1 208(1,0,4,1)=2 208(0,1,0,-1)=1 208(1,1,0,-1)=-1 208(2,0,4,0)=1 208(3,0,4,0)=1 208(0,0,2,-1)=-1 208(0,0,2,1)=4 208(1,0,2,-1)=-1 208(1,0,2,1)=4 208(2,0,2,0)=1 208(2,0,2,1)=2 208(3,0,2,1)=2");
        // held in turning: a load on the left beam does nothing at the right one's left end
        Script.on("200'S2x1F2x1S' 201()=2 " + rows + "208(2,0,2,-1)=-1 208(3,0,2,-1)=0 208(1,0,2,-1)=0 208(3,1,2,-1)=-1 208(2,1,2,-1)=0");
        // at free ends there is nothing; at a hinge there is no moment
        Script.on("200'.2x1F2x1.' 201()=2 207(1,0,0)=0 207(0,0,0)=1 207(1,1,4)=2 207(0,1,4)=3 208(0,0,2,-1)=0 208(1,0,2,-1)=0 208(2,1,2,-1)=0 208(3,1,2,-1)=0 208(0,1,4,-1)=0 200'F2x1h.2x1F' 201()=2 " + rows + "208(2,0,2,-1)=0 208(3,1,2,-1)=0 208(3,0,4,-1)=0 208(2,0,4,-1)=0");
    }

    private static Frac told(RoadHouse x, int row, int member, int place) {
        long sign = x.act(208, row, member, place, -1, 0);
        return Frac.of(sign * x.act(208, row, member, place, 0, 0), x.act(208, row, member, place, 1, 0));
    }

    /** The area above 0 (or below it) under straight lines between the values of a row, by the lengths of its beams. */
    private static Frac areaOf(RoadHouse x, int row, int sign, int... lengths) {
        Frac sum = Frac.ZERO;
        for (int b = 0; b < lengths.length; b++) {
            for (int p = 0; p < 4; p++) {
                Frac one = told(x, row, b, p).times(sign);
                Frac other = told(x, row, b, p + 1).times(sign);
                Frac step = Frac.of(lengths[b], 8);
                if (one.sign() >= 0 && other.sign() >= 0) {
                    sum = sum.plus(one.plus(other).times(step));
                } else if (one.sign() > 0 || other.sign() > 0) {
                    Frac more = one.sign() > 0 ? one : other;
                    Frac less = one.sign() > 0 ? other : one;
                    sum = sum.plus(more.times(more).by(more.minus(less)).times(step));
                }
            }
        }
        return sum;
    }

    @Says("209: The area between 0 and the straight lines that join the values of a row at all places in order")
    static void areas() {
        String[] texts = {"S4x1S8x3S", "F3x2S5x1h.7x12F", "S2x1hS9x5F4x7S", "S12x1.5x12T", ".1x1S11x2S3x5.", "Fh6x1S6x1hF"};
        int[][] lengths = {{4, 8}, {3, 5, 7}, {2, 9, 4}, {12, 5}, {1, 11, 3}, {6, 6}};
        for (int t = 0; t < texts.length; t++) {
            RoadHouse x = Script.on("200'" + texts[t] + "' 201()=" + lengths[t].length + " 205()=0 207(0,0,3)=0 207(0,1,0)=1 207(1,0,1)=2 207(1,1,2)=3 207(2,1,3)=4 207(2,0,1)=5 207(1,1,4)=6");
            for (int row = 0; row < 7; row++) {
                for (int sign = -1; sign <= 1; sign += 2) {
                    Frac due = areaOf(x, row, sign, lengths[t]);
                    String what = texts[t] + " row " + row + " sign " + sign;
                    Script.due(what + " sign", x.act(209, row, sign, -1, 0, 0), due.sign());
                    Script.due(what + " upper", x.act(209, row, sign, 0, 0, 0), due.up.longValueExact());
                    Script.due(what + " lower", x.act(209, row, sign, 1, 0, 0), due.low.longValueExact());
                }
            }
        }
    }

    @Says("A node may be held in HEIGHT, and in TURNING; an end of a beam may have a HINGE.")
    static void hinges() {
        // clamped at one end, at the other one held in height alone: 81, 40 and 11 of 128 there, 15 / 32, 3 / 4 and 21 / 32 at the clamp
        String left = "207(3,0,0)=0 207(0,0,4)=1 208(0,0,1,0)=81 208(0,0,1,1)=128 208(0,0,2,0)=5 208(0,0,2,1)=16 208(0,0,3,0)=11 208(0,0,3,1)=128 208(1,0,1,-1)=-1 208(1,0,1,0)=15 208(1,0,1,1)=32 208(1,0,2,0)=3 208(1,0,2,1)=4 208(1,0,3,0)=21 208(1,0,3,1)=32";
        String right = "207(3,1,0)=0 207(0,0,0)=1 208(0,0,3,0)=81 208(0,0,3,1)=128 208(0,0,2,0)=5 208(0,0,2,1)=16 208(0,0,1,0)=11 208(0,0,1,1)=128 208(1,0,3,-1)=-1 208(1,0,3,0)=15 208(1,0,3,1)=32 208(1,0,2,0)=3 208(1,0,2,1)=4 208(1,0,1,0)=21 208(1,0,1,1)=32";
        for (String text : new String[] {"S4x1F", "Sh4x1F", "Fh4x1F"}) {
            Script.on("200'" + text + "' 201()=1 " + left);
        }
        for (String text : new String[] {"F4x1S", "F4x1hS", "F4x1hF"}) {
            Script.on("200'" + text + "' 201()=1 " + right);
        }
        // with hinges at both ends, or held in height alone: three, two and one of four
        for (String text : new String[] {"S4x1S", "Fh4x1hF", "Sh4x1hF", "Fh4x1S"}) {
            Script.on("200'" + text + "' 201()=1 207(3,0,0)=0 208(0,0,1,0)=3 208(0,0,1,1)=4 208(0,0,2,0)=1 208(0,0,2,1)=2 208(0,0,3,0)=1 208(0,0,3,1)=4 208(0,0,0,0)=1 208(0,0,4,0)=0");
        }
        // the second beam likewise: a clamp between keeps the first one out of it
        Script.on("200'S1x1F4x1hS' 201()=2 207(3,2,0)=0 208(0,1,3,0)=81 208(0,1,3,1)=128 208(0,1,2,0)=5 208(0,0,3,-1)=0");
        Script.on("200'F4x1Fh4x1F' 201()=2 207(1,1,0)=0 208(0,1,1,0)=81 208(0,1,1,1)=128 208(0,1,3,0)=11 208(0,0,3,-1)=0");
        Script.on("200'F4x1Fh4x1hF' 201()=2 207(1,1,0)=0 208(0,1,1,0)=3 208(0,1,1,1)=4 208(0,1,3,0)=1 207(0,0,0)=1 208(1,0,1,-1)=-1 208(1,0,1,0)=9 208(1,0,1,1)=16");
    }

    @Says({"206: The k-th loose node of the row as it is now.", "206: BAD: none such."})
    static void looseNodes() {
        Script.on("206(0)=-1 206(-1)=-1 203(0,1,0)=1 206(0)=0 206(1)=1 206(2)=-1 206(-1)=-1 206(MAX)=-1 206(MIN)=-1 203(1,1,1)=0 206(0)=-1 203(1,1,0)=1 203(1,0,1)=0 206(0)=-1");
        Script.on("200'F2x1F2x1S2x1h.' 201()=3 206(0)=-1 204(2,0,1)=0 206(0)=3 206(1)=-1 203(3,0,1)=0 206(0)=-1 203(2,0,0)=1 206(0)=-1 204(1,0,1)=0 206(0)=2 206(1)=-1 203(3,0,0)=1 206(0)=2 206(1)=3 206(2)=-1");
    }

    public static void main(String[] args) {
        Script.run(BeamsSentencesTest.class);
    }
}
