/** Part TRAINS, sentence by sentence. */
public final class TrainsSentencesTest {
    /** A row that rises from 0 to 10 in 10 metres, and a train of 6 and, 4 behind it, 4. */
    private static RoadHouse rising() {
        return Script.on("300(0,0,1)=1 300(10,10,1)=1 301()=0 302(0,0,6)=1 302(0,4,4)=1");
    }

    private static void reads(String text, long want) {
        RoadHouse x = Script.on("312'1W;2W' 313()=2 312'" + text + "' 313()=" + want);
        Script.then(x, "314()=" + (want < 0 ? 2 : want) + " 313()=-1 312'3W' 313()=1");
    }

    @Says("An empty row, no trains, lanes, cases, nothing run.")
    static void atFirst() {
        Script.on("304(0,0)=-1 302(0,0,1)=0 308(1,0)=-1 314()=0 315(0,0)=-1 305(0)=-1 305(-1)=-2 306(0)=-1 311(-1)=0 320()=0 321()=0 309(5,0)=0 309(5,1)=1 309(5,-1)=0 307(1,1)=0 301()=0");
    }

    @Says({"300: False: the place is not 0 .. 400, or not above the last one; above is not - 1,000,000 .. 1,000,000, below not 1 .. 1,000; there are 14.", "THE ROW has at most 14 CORNERS, at places 0 .. 400, rising"})
    static void corner() {
        Script.on("300(-1,0,1)=0 300(401,0,1)=0 300(0,1000001,1)=0 300(0,-1000001,1)=0 300(0,0,0)=0 300(0,0,-1)=0 300(0,0,1001)=0 300(0,1000000,1000)=1 300(0,0,1)=0 300(1,-1000000,1)=1 300(1,0,1)=0 300(0,0,1)=0 300(MIN,0,1)=0"
            + " 11*300(#+2,5,1)=1 300(400,5,1)=1 300(399,5,1)=0 300(400,5,1)=0");
        Script.on("14*300(#,5,1)=1 300(14,5,1)=0 300(400,5,1)=0 310(0,1)=13");
        Script.on("300(400,1,1)=1 300(401,1,1)=0");
    }

    @Says("300: What was run is gone.")
    static void runGoneByCorner() {
        Script.then(rising(), "304(0,0)=4 305(0)=84 300(10,0,1)=0 300(401,0,1)=0 300(11,0,0)=0 305(0)=84 321()=1 300(11,0,1)=1 305(0)=-1 305(-1)=-2 306(0)=-1 308(1,0)=-1 321()=0");
        Script.then(rising(), "317(0,0)=4 306(4)=0 300(11,0,1)=1 305(-1)=-2 306(4)=-1");
    }

    @Says("302: What was run is gone.")
    static void runGoneByAxle() {
        Script.then(rising(), "304(0,0)=4 305(0)=84 302(1,0,1)=0 302(0,0,1)=0 302(0,61,1)=0 302(0,5,-1)=0 305(0)=84 321()=1 302(0,5,0)=1 305(0)=-1 305(-1)=-2 306(0)=-1 321()=0");
        // of another train, too
        Script.then(rising(), "301()=1 304(0,0)=4 305(0)=84 302(1,0,0)=1 305(0)=-1 306(2)=-1");
    }

    @Says({"304: its worst is at hand then, until a corner or an axle comes, the row is cleared, or something is run"})
    static void runGone() {
        Script.then(rising(), "304(0,0)=4 300(10,0,1)=0 302(0,0,1)=0 302(0,61,1)=0 305(0)=84 321()=1 300(11,0,1)=1 305(0)=-1 305(-1)=-2 306(0)=-1 321()=0 304(0,0)=6 305(0)=84 302(0,1,0)=1 305(0)=-1 321()=0 304(0,0)=8 305(0)=84 301()=1 307(1,1)=0 305(0)=84"
            + " 302(1,0,3)=1 305(0)=-1 304(0,0)=8 304(1,0)=3 305(0)=30 304(2,0)=-1 305(0)=30 306(2)=1 322()=0 305(0)=-1 306(0)=-1");
    }

    @Says({"301: BAD: there are 6.", "TRAINS are 0 .. 5, with at most 5 AXLES"})
    static void train() {
        Script.on("6*301()=# 301()=-1 301()=-1 302(5,0,1)=1 302(6,0,1)=0");
    }

    @Says({"302: One more axle, 1 .. 60 behind the last one (the first one 0), with a load 0 .. 1,000,000.", "302: False: none such, or there are 5."})
    static void axle() {
        Script.on("302(0,0,1)=0 301()=0 302(-1,0,1)=0 302(1,0,1)=0 302(0,1,1)=0 302(0,-1,1)=0 302(0,0,-1)=0 302(0,0,1000001)=0 302(0,0,1000000)=1 302(0,0,1)=0 302(0,61,1)=0 302(0,-1,1)=0 302(0,1,1000001)=0 302(0,1,-1)=0 302(0,60,0)=1 302(0,1,4)=1"
            + " 2*302(0,60,1)=1 302(0,1,1)=0 319(0)=250001");
    }

    @Says({"303: 0 .. 300 (0 and 0 at first)", "303: False: none such; the most is below the least.", "303: (The worst at hand stays.)"})
    static void gap() {
        Script.then(rising(), "303(-1,0,0)=0 303(1,0,0)=0 303(0,-1,0)=0 303(0,0,301)=0 303(0,5,4)=0 303(0,-2,-1)=0 303(0,301,301)=0 304(0,0)=4 303(0,0,300)=1 305(0)=84 303(0,300,300)=1 303(0,4,4)=1 305(0)=84");
        Script.then(rising(), "301()=1 302(1,0,10)=1 317(0,1)=4 305(0)=144 303(1,2,1)=0 317(0,1)=4 305(0)=144 303(1,2,301)=0 317(0,1)=4 305(0)=144 306(3)=6");
    }

    @Says({"304: how many places were tried (none: there is no worst then).", "304: BAD: there is none such", "Without corners or axles there is none.", "forward in rising order, each once, then (if both ways are wanted) backward so"})
    static void run() {
        Script.on("304(0,0)=-1 304(-1,1)=-1 301()=0 304(0,1)=0 305(0)=-1 305(-1)=-2 300(5,3,1)=1 304(0,1)=0 305(0)=-1 306(2)=-1 302(0,0,2)=1 304(0,0)=1 305(0)=6 306(0)=5 304(0,-3)=2 302(0,7,1)=1 304(0,0)=2 304(0,1)=4 304(1,0)=-1 305(0)=6");
        Script.on("301()=0 302(0,0,2)=1 304(0,1)=0 305(0)=-1 300(5,3,1)=1 304(0,0)=1 305(0)=6 322()=0 304(0,0)=0 305(0)=-1 305(-1)=-2");
        // of places that come twice: 0, 10, 20 alone
        Script.then(rising(), "301()=1 302(1,0,1)=1 302(1,10,1)=1 304(1,0)=3 304(1,1)=6 304(0,1)=8");
    }

    @Says("The WORST of a run is the greatest effect, and the first place that has it.")
    static void firstWorst() {
        Script.on("300(0,5,1)=1 300(10,5,1)=1 301()=0 302(0,0,2)=1 304(0,1)=4 305(0)=10 306(0)=0 306(1)=0");
        Script.on("300(0,10,1)=1 300(10,0,1)=1 301()=0 302(0,0,6)=1 302(0,4,4)=1 304(0,0)=4 305(0)=76 306(0)=4 304(0,1)=8 305(0)=84 306(0)=0 306(1)=1 306(2)=0");
        // all effects are below 0, and a place off the row is none that is tried
        Script.on("300(3,-5,1)=1 300(9,-5,2)=1 301()=0 302(0,0,2)=1 304(0,0)=2 305(-1)=-1 305(0)=5 305(1)=1 306(0)=9");
    }

    @Says("Its value at a place between the first and the last one lies on the straight line between its neighbours (at a corner it is the corner's); elsewhere it is 0.")
    static void value() {
        Script.on("300(2,1,1)=1 300(4,2,1)=1 300(7,-1,1)=1 301()=0 302(0,0,1)=1 302(0,1,1)=1 318(0,0,0)=1 318(0,1,0)=5 318(0,1,1)=2 318(0,2,0)=7 318(0,2,1)=2 318(0,3,0)=3 318(0,4,-1)=-1 318(0,4,0)=1 318(0,5,-1)=-1 318(0,5,0)=1 318(0,6,0)=-1");
    }

    @Says({"305: BAD (for part - 1: - 2): there is none.", "the next eighteen, and so on (0 behind the last ones)"})
    static void worst() {
        Script.then(rising(), "305(0)=-1 305(1)=-1 305(-1)=-2 304(0,0)=4 305(-1)=1 305(0)=84 305(1)=1 305(2)=0 305(3)=0 305(MAX)=0");
        Script.on("300(0,0,7)=1 301()=0 302(0,0,3)=1 304(0,0)=1 305(-1)=0 305(0)=0 305(1)=1");
    }

    @Says({"306: 3 s of the second train, 4 that train (BAD for both without one)", "306: BAD: none, another number."})
    static void place() {
        Script.then(rising(), "306(0)=-1 306(1)=-1 304(0,0)=4 306(-1)=-1 306(5)=-1 306(0)=10 306(1)=0 306(2)=0 306(3)=-1 306(4)=-1 301()=1 317(0,1)=4 306(0)=10 306(1)=0 306(2)=0 306(3)=6 306(4)=1 304(0,0)=4 306(3)=-1 306(4)=-1");
    }

    @Says({"307: (0 <= above <= below, below 1 .. 1,000): which one.", "307: BAD: none such, there are 4."})
    static void lane() {
        Script.on("307(-1,1)=-1 307(2,1)=-1 307(0,0)=-1 307(1,1001)=-1 307(-1,-1)=-1 307(1001,1001)=-1 307(0,1)=0 307(1000,1000)=1 307(1,1000)=2 307(1,1)=3 307(1,1)=-1 307(0,1)=-1");
    }

    @Says("308: BAD (for part - 1: - 2): there is none; n is not 1 .. the number of lanes.")
    static void lanes() {
        Script.then(rising(), "308(1,0)=-1 307(1,2)=0 307(1,4)=1 308(1,0)=-1 308(1,-1)=-2 304(0,0)=4 308(0,0)=-1 308(0,-1)=-2 308(3,0)=-1 308(3,-1)=-2 308(-1,-1)=-2 308(1,0)=42 308(2,0)=63 308(2,1)=1 308(2,2)=0 308(2,-1)=1 300(11,0,1)=1 308(1,-1)=-2");
    }

    @Says({"309: times what lies on a metre (0 .. 1,000,000), by parts.", "309: BAD (part - 1: - 2): not so much."})
    static void patch() {
        Script.then(rising(), "309(-1,0)=-1 309(-1,-1)=-2 309(1000001,1)=-1 309(1000001,-1)=-2 309(0,-1)=0 309(0,0)=0 309(0,1)=1 309(1,0)=50 309(1000000,0)=50000000 309(1,1)=1 309(1,2)=0 309(1,-1)=1");
        Script.then(stretches(), "309(2,0)=95 309(2,1)=2");
        // a half and a third; a half and a third below 0, and the other way round
        Script.on("300(0,1,2)=1 300(10,1,3)=1 309(1,0)=25 309(1,1)=6 309(6,0)=25 309(6,1)=1");
        Script.on("300(0,1,2)=1 300(10,-1,3)=1 309(1,0)=3 309(1,1)=2 310(0,0)=0 310(0,1)=6");
        Script.on("300(0,-1,2)=1 300(10,1,3)=1 309(1,0)=2 309(1,1)=3 310(0,0)=6 310(0,1)=10");
        // what is below 0 takes nothing from it; one corner has no area
        Script.on("300(0,-4,1)=1 309(9,0)=0 300(10,4,1)=1 309(1,0)=10 300(20,-4,1)=1 309(1,0)=20");
    }

    /** Above 0 from 0 to 10, where it touches, to 25, and from 42 and a half to 50. */
    private static RoadHouse stretches() {
        return Script.on("300(0,1,1)=1 300(10,0,1)=1 300(20,1,1)=1 300(30,-1,1)=1 300(40,-1,1)=1 300(50,3,1)=1");
    }

    @Says({"310: begins (end 0), or ends (1), cut off.", "310: (Touching 0 at a corner parts two of them; with fewer than two corners there is none.)", "310: BAD: none such."})
    static void covered() {
        Script.then(stretches(), "310(0,0)=0 310(0,1)=10 310(1,0)=10 310(1,1)=25 310(2,0)=42 310(2,1)=50 310(3,0)=-1 310(3,1)=-1 310(-1,0)=-1 310(0,2)=-1 310(0,-1)=-1");
        // values of 1 are above 0; where it is 0 before, it begins at the last corner that is 0
        Script.on("300(0,1,1)=1 300(10,1,1)=1 300(20,2,1)=1 311(-1)=1 310(0,0)=0 310(0,1)=20 311(0)=0 310(1,0)=-1");
        Script.on("300(0,0,1)=1 300(5,0,1)=1 300(10,1,1)=1 300(12,0,1)=1 300(14,0,1)=1 311(-1)=1 310(0,0)=5 310(0,1)=12 311(0)=1 310(1,0)=-1");
        Script.on("300(5,0,1)=1 300(10,3,1)=1 311(-1)=1 310(0,0)=5 310(0,1)=10 311(0)=0");
        Script.on("310(0,0)=-1 300(5,9,1)=1 310(0,0)=-1 310(0,1)=-1 300(8,0,1)=1 310(0,0)=5 310(0,1)=8 310(1,0)=-1 300(9,0,1)=1 310(0,1)=8 310(1,0)=-1 300(20,-5,1)=1 310(1,0)=-1");
    }

    @Says({"311: of them (k at least 0) the k-th one (k from 0 on): the number of its first corner inside or at its beginning.", "311: For k below 0: how many.", "311: BAD: none such."})
    static void vehicles() {
        Script.then(stretches(), "311(-1)=3 311(MIN)=3 311(0)=0 311(1)=1 311(2)=5 311(3)=-1 311(MAX)=-1");
        Script.on("311(-1)=0 311(0)=-1 300(5,9,1)=1 311(-1)=0 311(0)=-1 300(6,-9,1)=1 311(-1)=1 311(0)=0 300(7,1,1)=1 311(-1)=2 311(1)=2");
    }

    @Says({"312: A sign of 32 .. 126 is collected, at most 100.", "312: False: another one, no room."})
    static void unit() {
        Script.on("312(31)=0 312(127)=0 312(-1)=0 312(343)=0 312'1W' 313()=1 50*312(32)=1 50*312(126)=1 312(49)=0 313()=-1 312'1W' 313()=1 313()=-1 314()=1");
    }

    @Says({"313: how many; - 1 less the number of its first sign that is wrong (if it ends too early, the one behind the last); the cases stay then.", "CASES are a text: a case, and any number of times ; and a case.", "A term is a NUMBER (one to four digits) and a letter, W, P or L"})
    static void rules() {
        reads("", -1);
        reads("1", -2);
        reads("1W", 1);
        reads("1W;", -4);
        reads("1W+", -4);
        reads("1W;2P", 2);
        reads("1W+2P-3L", 1);
        reads("W", -1);
        reads("1w", -2);
        reads("1X", -2);
        reads("-1W", -1);
        reads("1W;;1W", -4);
        reads("1W*1W", -3);
        reads("1W1W", -3);
    }

    @Says({"A NUMBER may have 0 in front; a fifth digit is a wrong sign.", "No blanks."})
    static void digits() {
        reads("9999W", 1);
        reads("0009W", 1);
        reads("0W", 1);
        reads("12345W", -5);
        reads("00001W", -5);
        reads("12345", -5);
        reads(" 1W", -1);
        reads("1 W", -2);
        reads("1W ", -3);
        reads("1W;1W+12345W", -11);
    }

    @Says("313: More than 8 cases: the ; before the next one is wrong; more than 6 terms in one: the sign before the next one.")
    static void mostCases() {
        reads("1W;1W;1W;1W;1W;1W;1W;1W", 8);
        reads("1W;1W;1W;1W;1W;1W;1W;1W;1W", -24);
        reads("1W+1W+1W+1W+1W+1W", 1);
        reads("1W+1W+1W+1W+1W+1W+1W", -18);
        reads("1W+1W+1W+1W+1W+1W-1W", -18);
        reads("1W+1W+1W+1W+1W+1W;1P-1P-1P-1P-1P-1P", 2);
    }

    @Says({"315: BAD (part - 1: - 2): none such.", "What there is none of counts as 0."})
    static void caseOf() {
        RoadHouse x = Script.then(rising(), "315(0,0)=-1 315(0,-1)=-2 312'100W;50P;25L;100W-50P+1L;0W' 313()=5 315(5,0)=-1 315(5,-1)=-2 315(-1,0)=-1 315(-1,-1)=-2 315(0,0)=0 315(0,1)=1 315(0,-1)=0 315(1,0)=25 315(2,0)=0 315(3,0)=25 315(3,-1)=-1");
        Script.then(x, "304(0,0)=4 315(0,0)=84 315(2,0)=0 315(2,1)=1 307(1,2)=0 307(1,4)=1 315(2,0)=63 315(2,1)=4 315(2,2)=0 315(3,0)=5963 315(3,1)=100 315(4,-1)=0 322()=0 315(1,-1)=0 315(0,0)=0");
    }

    @Says({"316: Which case is the k-th one, from the greatest on, of equal ones the first first.", "316: BAD: none such."})
    static void by() {
        Script.then(rising(), "316(0)=-1 307(3,4)=0 312'25L;50P;100W;50P;1P-1P;0W-1W' 313()=6 304(0,0)=4 316(-1)=-1 316(6)=-1 316(0)=2 316(1)=1 316(2)=3 316(3)=0 316(4)=4 316(5)=5 322()=0 6*316(#)=#");
    }

    @Says({"317: how many pairs of places were tried (those of equal gap once).", "317: (A second one without axles counts for nothing, at its least and most gap.)", "317: BAD: none such; the first one has no places.",
        "317: The worst of them (the lesser s of the first train, then the lesser gap) is at hand."})
    static void between() {
        RoadHouse x = Script.then(rising(), "301()=1 302(1,0,10)=1 301()=2 317(0,1)=4 305(0)=144 306(0)=10 306(1)=0 306(2)=0 306(3)=6 306(4)=1 317(-1,0)=-1 317(3,0)=-1 317(0,-1)=-1 317(0,3)=-1 317(2,0)=-1 305(0)=144 306(4)=1");
        Script.then(x, "303(1,2,5)=1 317(0,1)=8 305(0)=124 306(0)=10 306(3)=4 303(1,2,6)=1 317(0,1)=8 303(1,2,7)=1 317(0,1)=9 303(1,7,7)=1 317(0,1)=4 317(0,2)=4 305(0)=84 306(0)=10 306(3)=6 306(4)=2 303(2,1,9)=1 317(0,2)=8 305(0)=84 306(3)=5");
        // effects as great as each other: the first place, then the least gap
        Script.on("300(0,5,1)=1 300(100,5,1)=1 301()=0 302(0,0,1)=1 301()=1 302(1,0,1)=1 303(1,3,9)=1 317(0,1)=4 305(0)=10 306(0)=100 306(3)=97 301()=2 317(0,0)=2 306(0)=0 306(3)=0");
        Script.on("301()=0 302(0,0,1)=1 301()=1 317(0,1)=-1 305(0)=-1 300(5,1,1)=1 317(0,1)=1 317(1,0)=-1 305(0)=1");
    }

    @Says("318: BAD (part - 1: - 2): none such.")
    static void fatigue() {
        Script.then(rising(), "318(0,0,0)=0 318(0,0,-1)=0 318(0,1,0)=24 318(0,2,0)=84 318(0,3,0)=40 318(0,4,0)=-1 318(0,4,-1)=-2 318(0,-1,0)=-1 318(0,-1,-1)=-2 318(1,0,0)=-1 318(-1,0,-1)=-2 318(0,2,2)=0 305(0)=-1 320()=0");
    }

    @Says({"319: A quarter of all loads of a train, cut off.", "319: BAD: none such."})
    static void brake() {
        Script.on("319(0)=-1 301()=0 319(0)=0 319(-1)=-1 319(1)=-1 302(0,0,3)=1 319(0)=0 302(0,1,4)=1 319(0)=1 3*302(0,1,1000000)=1 319(0)=750001");
    }

    @Says("320: How many places and pairs were tried since the row was cleared (or at all).")
    static void tried() {
        Script.then(rising(), "320()=0 304(0,0)=4 320()=4 304(0,1)=8 320()=12 304(5,0)=-1 317(0,5)=-1 320()=12 301()=1 317(0,1)=4 320()=16 318(0,0,0)=0 300(20,0,1)=1 320()=16 322()=0 320()=0 304(0,0)=0 320()=0");
    }

    @Says({"321: has no greater effect at any whole place from 0 to 700 forward (and from - 300 to 400 backward, if both were wanted), effects of 0 left out.", "321: False: nothing was run so."})
    static void corners() {
        Script.then(rising(), "321()=0 304(0,0)=4 321()=1 301()=1 317(0,1)=4 321()=0 304(0,1)=8 321()=1 304(1,0)=0 321()=0 304(0,0)=4 322()=0 321()=0");
        // where the second one is just off the row, below 0 at its end, the first one does more
        Script.on("300(0,-10,1)=1 300(10,10,1)=1 301()=0 302(0,0,3)=1 302(0,10,1)=1 304(0,0)=3 305(0)=20 321()=0");
        // so backward alone
        Script.on("300(0,0,1)=1 300(10,-10,1)=1 300(20,10,1)=1 300(30,-10,1)=1 301()=0 302(0,0,3)=1 302(0,10,1)=1 304(0,0)=5 305(0)=20 321()=1 304(0,1)=10 305(0)=20 321()=0");
        // before place 0 backward alone; and behind place 400 forward
        Script.on("300(0,-10,1)=1 300(10,10,1)=1 300(20,-10,1)=1 300(30,0,1)=1 301()=0 302(0,0,1)=1 302(0,10,3)=1 304(0,0)=5 305(0)=20 321()=1 304(0,1)=10 305(0)=20 321()=0");
        Script.on("300(370,0,1)=1 300(380,-10,1)=1 300(390,10,1)=1 300(400,-10,1)=1 301()=0 302(0,0,1)=1 302(0,10,3)=1 304(0,0)=5 305(0)=20 321()=0");
        // all is below 0; where nothing stands on the row there is no effect
        Script.on("300(3,-5,1)=1 300(9,-5,1)=1 301()=0 302(0,0,2)=1 304(0,1)=4 321()=1");
    }

    @Says("322: The row is empty; what was run is gone; nothing was tried.")
    static void clearRow() {
        Script.then(rising(), "304(0,0)=4 322()=0 305(0)=-1 320()=0 311(-1)=0 309(1,0)=0 300(0,1,1)=1 304(0,0)=2 319(0)=2 322()=0 14*300(#,1,1)=1");
    }

    @Says({"each stands so far behind the one before it (the first one 0)", "FORWARD the others are at lesser places, by how far they are behind it in all, BACKWARD at greater ones"})
    static void behind() {
        // 3, 3 + 5 and 3 + 5 + 1 behind the first one
        Script.on("300(100,1,1)=1 301()=0 302(0,0,1)=1 302(0,3,10)=1 302(0,5,100)=1 302(0,1,1000)=1 304(0,1)=8 305(0)=1000 306(0)=109 306(1)=0 318(0,0,0)=1 318(0,1,0)=10 318(0,2,0)=100 318(0,3,0)=1000");
        // backward at 94 the second one is at 97, where the value is, and the first one before the row
        Script.on("300(97,5,1)=1 300(98,9,1)=1 300(100,-90,1)=1 301()=0 302(0,0,1)=1 302(0,3,7)=1 304(0,0)=5 305(0)=63 306(0)=101 304(0,1)=10 305(0)=63 306(1)=0 302(0,1,8)=1 304(0,0)=7 305(0)=103 306(0)=101 304(0,1)=14 305(0)=107 306(0)=94 306(1)=1");
        Script.on("300(0,1,1)=1 300(10,2,1)=1 301()=0 302(0,0,5)=1 302(0,10,5)=1 302(0,10,5)=1 304(0,0)=4 305(0)=15 306(0)=10 322()=0 300(0,2,1)=1 300(10,-1,1)=1 302(0,1,-1)=0 304(0,1)=8 305(0)=10 306(0)=0 306(1)=0");
        Script.on("300(0,-9,1)=1 300(10,1,1)=1 300(20,6,1)=1 301()=0 302(0,0,1)=1 302(0,10,2)=1 304(0,0)=4 305(0)=12 306(0)=30 304(0,1)=8 305(0)=13 306(0)=10 306(1)=1 302(0,1,0)=1 300(21,-6,1)=1 304(0,0)=8 305(0)=12 306(0)=30 304(0,1)=17 305(0)=13 306(0)=10 306(1)=1");
    }

    @Says("317: with the first one at each place tried for it alone, the second one with its first axle at the least and at the most gap, and where one of its axles is at a corner between these")
    static void gaps() {
        // the first one's last axle 7 behind; the second one's second axle 4 behind its first
        RoadHouse x = Script.on("300(0,0,1)=1 300(10,10,1)=1 300(20,0,1)=1 301()=0 302(0,0,1)=1 302(0,7,2)=1 301()=1 302(1,0,4)=1 302(1,4,8)=1 304(0,0)=6 305(0)=23 306(0)=17");
        // s 0, 7, 10, 17, 20, 27: the tail - 7, 0, 3, 10, 13, 20; between 2 and 9 there is tail, tail - 4, tail - 10, tail - 14 and so on
        Script.then(x, "303(1,2,9)=1 317(0,1)=16 305(0)=106 306(0)=20 306(3)=11 303(1,2,2)=1 317(0,1)=6 306(0)=20 306(3)=11 305(0)=106 303(1,3,3)=1 317(0,1)=6 305(0)=102 306(0)=20 306(3)=10 303(1,0,300)=1 317(0,1)=22 305(0)=114 306(0)=20 306(3)=13");
    }

    @Says({"CASES are a text: a case, and any number of times ; and a case.", "so many hundredths of the worst, of the area where the row is above 0, of the worst times what all lanes count together"})
    static void casesAnew() {
        // what was read before is gone; each case begins with a + ; areas and lanes that are fractions
        Script.then(stretches(), "312'100P;100P-50P' 313()=2 315(0,0)=95 315(0,1)=4 315(1,0)=95 315(1,1)=8 312'100P-200P;100P' 313()=2 315(0,-1)=-1 315(0,0)=95 315(1,-1)=1 315(1,0)=95 315(1,1)=4 314()=2");
        Script.then(stretches(), "312'1P+1P+1P+1P+1P+1P;1P+1P+1P+1P+1P+1P+1P' 313()=-36 312'7P;9L' 313()=2 312'1P' 313()=1 315(1,0)=-1 301()=0 302(0,0,7)=1 304(0,0)=6 307(1,3)=0 307(2,7)=1 312'300L+100W' 313()=1 315(0,0)=60 308(2,0)=13 308(2,1)=1");
    }

    public static void main(String[] args) {
        Script.run(TrainsSentencesTest.class);
    }
}
