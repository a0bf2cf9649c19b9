/** Part SIGNALS, sentence by sentence. */
public final class SignalsSentencesTest {
    /** Of three groups, behind one plan that was read: a text, and what reading it answers. */
    private static void reads(String text, long want) {
        RoadHouse x = Script.on("500(3)=0 504'ABC1-31' 505()=1 509()=0 504'" + text + "' 505()=" + want + " 506()=" + (want < 0 ? 1 : 2) + " 510(0)=" + (want < 0 ? 1 : 0));
        Script.then(x, "505()=-1 504'C1-1' 505()=1");
    }

    private static RoadHouse plan(int groups, String text) {
        RoadHouse x = Script.on("500(" + groups + ")=0");
        int phases = text.split(";").length;
        return Script.then(x, "504'" + text + "' 505()=" + phases);
    }

    @Says({"As behind begin(1) (call 500).", "GROUPS are 0 .. n - 1 (n of 1 .. 6), in texts letters from A on."})
    static void atFirst() {
        Script.on("506()=0 509()=-1 510(0)=-1 511(0)=-1 512(400)=-1 513()=0 518(0)=0 501(0,1,0)!index 502(1,1)!index 502(0,1)=1 504'B1-2' 505()=-1 504'A1-2' 505()=1 510(9)=0 510(10)=-1");
        Script.then(plan(6, "F1-1"), "510(14)=0 510(13)=15 510(15)=-1 502(5,1)=1 502(6,1)!index");
    }

    @Says({"500: throws NegativeArraySizeException, IllegalArgumentException", "500: Below 0: negative size; 0 or above 6: illegal argument: nothing is changed.", "500: nothing clashes, no plans, no text, nothing told or proved; the machine has no plan."})
    static void begin() {
        RoadHouse x = Script.then(plan(2, "A1-3;B1-3"), "507(1,5)=1 509()=0 512(400)=1 504'A1-' 500(-1)!size 500(MIN)!size 500(0)!argument 500(7)!argument 500(MAX)!argument 510(0)=1 506()=1 507(1,5)=0 517()=1 504'9' 505()=1 506()=2");
        Script.then(x, "501(0,1,4)=1 502(0,15)=1 503(0,1)=1 504'B' 500(2)=0 506()=0 505()=-1 510(0)=-1 513()=0 517()=0 504'A1-1;B1-1' 505()=2 507(0,5)=1 5*509()=0 510(4)=0");
        // no clash, no seconds between, no times are left
        Script.then(plan(2, "AB1-1"), "501(0,1,4)=1 502(0,9)=1 503(0,1)=1 500(2)=0 504'AB1-1' 505()=1 5*509()=0");
        Script.then(plan(2, "A1-1;B1-1"), "501(0,1,4)=1 500(2)=0 501(1,0,2)=1 504'A1-1;B1-1' 505()=2 509()=0 510(2)=1 509()=0 510(4)=2");
        Script.then(plan(2, "A5-9;B1-1"), "503(0,1)=1 500(2)=0 501(0,1,0)=1 504'A5-9;B1-1' 505()=2 507(1,1)=1 5*509()=0 510(2)=1");
        Script.on("500(6)=0 502(5,1)=1 500(1)=0 502(1,1)!index");
        // nothing is told any more, and nothing was done
        Script.then(plan(1, "A1-1"), "507(0,1)=1 500(1)=0 507(0,1)=1 504'A1-1' 505()=1 507(0,1)=1 2*509()=0 500(1)=0 504'A1-1' 505()=1 510(0)=0");
    }

    @Says({"501: throws ArrayIndexOutOfBoundsException", "501: so many seconds (0 .. 15)", "501: False: they are the same, no such number.", "501: A group that there is not (the first one is looked at first) throws, before all else."})
    static void clash() {
        Script.on("500(2)=0 501(-1,0,0)!index 501(2,0,0)!index 501(0,-1,0)!index 501(0,2,0)!index 501(2,2,99)!index 501(0,2,16)!index 501(MIN,MAX,0)!index 501(0,0,0)=0 501(1,1,5)=0 501(0,1,-1)=0 501(0,1,16)=0 501(0,1,0)=1 501(1,0,15)=1");
        // what is false makes no clash; the later number is the one
        Script.then(plan(2, "AB1-1"), "501(0,1,16)=0 501(0,0,1)=0 509()=0 501(1,0,0)=1 509()=1");
        Script.then(plan(2, "A1-1;B1-1"), "501(0,1,5)=1 501(0,1,2)=1 501(0,1,16)=0 509()=0 510(4)=2");
    }

    @Says({"501: What was proved, and told for seconds to come, is gone, and the machine is as at first (so with 502, 503, and a 505 that reads a plan, also if nothing is another then)."})
    static void again() {
        String[] calls = {"501(0,1,0)=1", "502(0,1)=1", "503(1,31)=1", "504'A1-1' 505()=1"};
        for (String call : calls) {
            RoadHouse x = Script.then(plan(2, "A1-2;B1-2"), "501(0,1,0)=1 512(400)=1 507(0,9)=1 509()=0 510(0)=1 " + call + " 513()=0 517()=0 510(0)=0 510(3)=0 510(8)=-1 510(9)=0 510(10)=15 507(1,9)=1 507(0,1)=1");
            Script.then(x, "60*507(0,#+1) 507(0,100)=0 " + call + " 507(0,100)=1");
        }
        // what is refused leaves all
        Script.then(plan(2, "A1-2;B1-2"), "501(0,1,0)=1 512(400)=1 507(0,9)=1 509()=0 501(0,1,16)=0 501(0,0,0)=0 501(0,2,0)!index 502(0,0)=0 502(2,1)!index 503(0,32)=0 503(-1,1)!index 504'A' 505()=-2 510(0)=1 517()=1 507(1,9)=0");
    }

    @Says({"502: throws ArrayIndexOutOfBoundsException", "502: A least time, 1 .. 15.", "502: False: none such.", "Each has a LEAST time (1 at first)"})
    static void least() {
        Script.on("500(2)=0 502(-1,1)!index 502(2,1)!index 502(2,99)!index 502(0,0)=0 502(0,16)=0 502(0,-1)=0 502(1,15)=1 502(0,1)=1");
        Script.then(plan(2, "A1-1;B1-1"), "509()=0 509()=0 502(0,2)=1 509()=3 502(0,16)=0 502(0,0)=0 502(0,1)=1 509()=0");
        // shown for just as long as it must
        Script.then(plan(2, "A3-3;B1-1"), "502(0,3)=1 3*509()=0 502(0,4)=1 2*509()=0 509()=3");
    }

    @Says({"503: throws ArrayIndexOutOfBoundsException", "503: A most time, 1 .. 31.", "503: False: none such.", "and a MOST one (31)"})
    static void most() {
        Script.on("500(2)=0 503(-1,1)!index 503(2,1)!index 503(2,99)!index 503(0,0)=0 503(0,32)=0 503(0,-1)=0 503(1,31)=1 503(0,1)=1");
        // shown for longer than it may, while one that clashes waits
        Script.then(plan(2, "A5-31;B1-1"), "501(0,1,0)=1 503(0,2)=1 507(1,1)=1 2*509()=0 509()=4 503(0,32)=0 503(0,3)=1 507(1,1)=1 3*509()=0 509()=4 503(0,5)=1 507(1,1)=1 5*509()=0 510(2)=1");
        // so for a group with another letter, and told the other way round
        Script.then(plan(3, "C5-31;B1-1"), "501(1,2,0)=1 503(2,2)=1 507(1,1)=1 2*509()=0 509()=4");
        Script.then(plan(3, "C5-31;B1-1"), "501(2,1,0)=1 503(2,2)=1 507(1,1)=1 2*509()=0 509()=4");
        Script.then(plan(2, "A5-31;B1-1"), "501(1,0,0)=1 503(0,2)=1 507(1,1)=1 2*509()=0 509()=4");
        Script.then(plan(2, "A5-31;B1-1"), "501(0,1,0)=1 503(0,2)=1 507(1,4)=1 3*509()=0 509()=4 503(0,2)=1 4*509()=0");
        Script.then(plan(2, "A5-31;B1-1"), "503(0,2)=1 507(1,1)=1 5*509()=0");
    }

    @Says({"504: A sign of 32 .. 126 is collected, at most 60.", "504: False: another one, no room."})
    static void unit() {
        Script.on("504(31)=0 504(127)=0 504(-1)=0 504(321)=0 504'A1-1' 505()=1 30*504(32)=1 30*504(126)=1 504(65)=0 505()=-1 504'A1-1' 505()=1");
    }

    @Says({"505: how many phases it has.", "505: - 1 less the number of its first sign that is wrong", "PLANS are texts: a phase, and any number of times ; and a phase, 5 at most.", "505: a sixth phase: the ; before it"})
    static void read() {
        reads("", -1);
        reads("A", -2);
        reads("A1", -3);
        reads("A1-", -4);
        reads("A1-2", 1);
        reads("A1-2;", -6);
        reads("A1-2;B3-4", 2);
        reads("A1-2;;", -6);
        reads("A1-2B1-2", -5);
        reads("A1-2,B1-2", -5);
        reads("A1:2", -3);
        reads("A1-2;B1-2;A1-2;B1-2;A1-2", 5);
        reads("A1-2;B1-2;A1-2;B1-2;A1-2;", -25);
        reads("A1-2;B1-2;A1-2;B1-2;A1-2;B1-2", -25);
    }

    @Says({"505: a letter that does not rise, or is no group: itself", "A PHASE is letters of groups, rising, at least one"})
    static void letters() {
        reads("ABC1-2", 1);
        reads("AC1-2", 1);
        reads("D1-2", -1);
        reads("AD1-2", -2);
        reads("AA1-2", -2);
        reads("BA1-2", -2);
        reads("ACB1-2", -3);
        reads("a1-2", -1);
        reads("@1-2", -1);
        reads("1-2", -1);
        reads("A1-2;1-2", -6);
    }

    @Says({"its least time 1 .. 15; -; a number, its most time, from the least one to 31", "No blanks; numbers have no 0 in front.", "505: a number that is too great, or too small: its first digit"})
    static void times() {
        reads("A15-15", 1);
        reads("A15-31", 1);
        reads("A16-20", -2);
        reads("A100-2", -2);
        reads("A0-2", -2);
        reads("A01-2", -2);
        reads("A1-32", -4);
        reads("A1-310", -4);
        reads("A10-9", -5);
        reads("A1-0", -4);
        reads("A1-01", -4);
        reads("A5-4", -4);
        reads("A5-5", 1);
        reads("A 1-2", -2);
        reads("A1 -2", -3);
        reads("A1- 2", -4);
        reads("A1-2 ", -5);
        reads(" A1-2", -1);
        reads("A4294967297-2", -2);
        reads("A1-4294967299", -4);
    }

    @Says({"505: (if it ends too early, or there are 3 plans, the one behind the last", "There are at most 3 plans."})
    static void threePlans() {
        Script.then(plan(1, "A1-1"), "506()=1 504'A1-1;A2-2' 505()=2 504'A1-1' 505()=1 506()=3 504'A1-1' 505()=-5 506()=3 505()=-1 504'A1-1;A1-1' 505()=-10 504'A1-B' 505()=-4 504'A1' 505()=-3 506()=3 508(2,1)=1 508(3,2)=0");
        // a plan too many leaves all that was proved and done
        Script.then(plan(1, "A1-1"), "504'A1-1' 505()=1 504'A1-1' 505()=1 512(400) 509()=0 504'A1-1' 505()=-5 510(0)=1");
    }

    @Says({"507: In a second to come of the machine (counted from 1 on) a group calls.", "507: False: none such, that second was; something was told for it; 60 are told (those for seconds that were done count until all are gone)."})
    static void call() {
        RoadHouse x = Script.then(plan(2, "A9-9;B1-1"), "507(-1,1)=0 507(2,1)=0 507(0,0)=0 507(1,-1)=0 507(1,2)=1 507(1,2)=0 507(0,2)=0 508(0,2)=0 509()=0 510(6)=0 507(1,1)=0 509()=0 510(6)=2 507(1,2)=0 507(1,3)=1 507(1,MAX)=1");
        Script.then(plan(2, "A9-9;B1-1"), "60*507(0,#+1)=1 507(0,61)=0 508(0,61)=0 20*509()=0 507(0,61)=0 508(0,99)=0 502(0,1)=1 508(0,61)=1 507(0,61)=0");
        Script.then(x, "507(0,MAX)=0 507(0,2147483646)=1");
    }

    @Says("508: False: as above.")
    static void wanted() {
        RoadHouse x = Script.then(plan(1, "A2-9"), "508(1,1)=0 504'A1-3;A4-4' 505()=2 508(-1,1)=0 508(2,1)=0 508(1,0)=0 508(1,-5)=0 508(1,2)=1 508(0,2)=0 507(0,2)=0 509()=0 510(5)=0 508(1,1)=0 509()=0 510(5)=1 510(1)=1 510(2)=0 510(3)=0");
        Script.then(x, "502(0,1)=1 60*508(0,#+1)=1 508(0,61)=0 507(0,61)=0 5*509()=0 508(0,61)=0");
    }

    @Says("509: BAD: it has no plan.")
    static void second() {
        Script.on("509()=-1 504'A1-1' 505()=1 509()=0 500(1)=0 509()=-1");
    }

    @Says({"510: 9 and on the ages (while it clears, 1 to 3 are of the phase that ends)", "510: BAD: no plan, none such.", "510: 8 the number of its state among those found (BAD, if it is none)", "At first: plan 0, phase 0, T 0, wanted plan 0, nobody waits, ages 0 of that phase's groups, 15 of others."})
    static void told() {
        Script.on("510(0)=-1 510(8)=-1 510(9)=-1");
        RoadHouse x = Script.then(plan(2, "A2-3;B1-1"), "510(-1)=-1 510(11)=-1 510(MAX)=-1 510(0)=0 510(1)=0 510(2)=0 510(3)=0 510(4)=0 510(5)=0 510(6)=0 510(7)=1 510(8)=-1 510(9)=0 510(10)=15");
        Script.then(x, "501(0,1,2)=1 3*509()=0 510(0)=3 510(1)=0 510(2)=0 510(3)=3 510(4)=2 510(7)=0 510(9)=0 510(10)=15 509()=0 510(2)=0 510(3)=3 510(4)=1 510(7)=0 510(9)=1 509()=0 510(2)=1 510(3)=0 510(4)=0 510(7)=2 510(9)=2 510(10)=0 509()=0 510(2)=0 510(7)=1 510(9)=0 510(10)=0");
        Script.then(plan(2, "B1-1"), "510(9)=15 510(10)=0 510(7)=2");
        // behind a round that clears for 15 seconds the machine is as at first
        Script.then(plan(2, "A1-1;B1-1"), "501(1,0,15)=1 512(400)=1 17*509()=0 510(8)=0 510(0)=17");
        Script.then(plan(1, "A1-1"), "512(32)=1 510(8)=0 5*509()=0 510(8)=5 512(3)=2 510(8)=-1 512(0)=-1 510(8)=-1");
    }

    @Says({"T (seconds for which the phase was shown, at most 31)", "of one that is shown how long (at most 31), of another one for how long it was not (at most 15)", "(If that is the same phase of the same plan, it does not end.)"})
    static void atMost() {
        Script.then(plan(2, "A1-31"), "30*509()=0 510(3)=30 510(9)=30 510(10)=15 509()=0 510(3)=31 510(9)=31 9*509()=0 510(2)=0 510(3)=31 510(9)=31 510(10)=15");
        Script.then(plan(2, "A1-1;B15-31"), "509()=0 510(9)=0 14*509()=0 510(9)=14 509()=0 510(9)=15 509()=0 510(9)=15 510(10)=16");
        Script.then(plan(2, "A1-31;B1-1"), "30*509()=0 510(2)=0 509()=0 510(2)=1");
    }

    @Says("group g calls: if it is not shown, it waits; 1 + n + p: plan p (if there is one) is wanted")
    static void events() {
        Script.then(plan(3, "A3-9;B1-1"), "507(0,1)=1 507(2,2)=1 2*509()=0 510(6)=4 509()=0 510(6)=4 510(2)=1");
        // while it clears nobody is shown, so the one that was shown waits, too
        Script.then(plan(2, "A1-1;B9-9"), "501(0,1,3)=1 507(0,2)=1 2*509()=0 510(4)=2 510(6)=1");
        // a group of both phases is shown all the while
        Script.then(plan(3, "AC1-1;BC9-9"), "501(0,1,3)=1 507(2,2)=1 509()=0 510(7)=4 509()=0 510(6)=0 510(7)=4 510(11)=2 2*509()=0 510(7)=6 510(11)=4");
    }

    @Says("Otherwise T is 1 more, and the phase ENDS, if T is its most time or more; or if T is its least time or more, and some group that is not in it waits or another plan is wanted: what comes is phase 0 of that other plan; or else the first phase behind it, round and round, that has a group that waits; or else the next one.")
    static void ends() {
        Script.then(plan(2, "A2-5;B1-1"), "507(1,1)=1 509()=0 510(2)=0 509()=0 510(2)=1");
        Script.then(plan(2, "A2-5;B1-1"), "507(0,1)=1 4*509()=0 510(2)=0 509()=0 510(2)=1");
        Script.then(plan(3, "A2-5;B1-1;C4-9"), "507(2,2)=1 509()=0 510(2)=0 509()=0 510(2)=2 510(6)=0 507(1,5)=1 507(0,4)=1 3*509()=0 510(6)=3 510(2)=2 509()=0 510(2)=0 510(6)=2 2*509()=0 510(2)=1 509()=0 510(2)=2");
        // round and round: from the second phase on, not to the third, but to the first
        Script.then(plan(3, "A1-1;B3-9;C1-1"), "509()=0 510(2)=1 507(0,2)=1 3*509()=0 510(2)=0");
        // of two plans the other one's first phase comes, whatever phase would be the next
        Script.then(plan(1, "A1-9;A5-5"), "504'A4-5;A1-1' 505()=2 508(1,1)=1 509()=0 510(1)=1 510(2)=0");
        Script.then(plan(1, "A3-9"), "504'A1-5;A1-1' 505()=2 508(1,1)=1 2*509()=0 510(1)=0 509()=0 510(1)=1 510(2)=0 510(3)=0 4*509()=0 510(2)=0 509()=0 510(2)=1");
    }

    @Says("it clears for the greatest of the seconds between the end of one of these and the beginning of a group that comes and was not in it (0 if they do not clash); if that is 0, the phase that comes begins at once")
    static void clears() {
        Script.then(plan(3, "AB1-1;C1-1"), "501(0,2,2)=1 501(1,2,5)=1 509()=0 510(4)=5");
        // told the other way round alone: 0; a group of both phases counts for nothing
        Script.then(plan(2, "A1-1;B1-1"), "501(1,0,7)=1 509()=0 510(4)=0 510(2)=1 509()=0 510(4)=7");
        Script.then(plan(3, "AC1-1;BC1-1"), "501(0,2,9)=1 501(0,1,1)=1 509()=0 510(4)=1 509()=0 510(4)=0");
        Script.then(plan(2, "A1-1;B1-1"), "501(0,1,15)=1 509()=0 510(4)=15 14*509()=0 510(4)=1 510(2)=0 509()=0 510(4)=0 510(2)=1 510(9)=15");
    }

    @Says("When a phase begins, T is 0, its groups that were not shown have age 0, and none of its groups waits.")
    static void begins() {
        Script.then(plan(3, "A2-2;BC1-9"), "507(1,1)=1 509()=0 510(6)=2 510(3)=1 507(2,2)=1 509()=0 510(2)=1 510(6)=0 510(3)=0 510(9)=0 510(10)=0 510(11)=0 509()=0 510(3)=1 510(10)=1");
        // a group of both phases goes on; one that waits and is not in it still waits
        Script.then(plan(3, "AB1-1;AC5-9;B1-1"), "507(2,1)=1 509()=0 510(2)=1 510(9)=1 510(10)=0 510(11)=0 507(1,2)=1 509()=0 510(6)=2 510(9)=2 4*509()=0 510(2)=2 510(6)=0");
        // while it clears, they wait and T stays
        Script.then(plan(2, "A1-1;B1-1"), "501(0,1,2)=1 507(1,1)=1 509()=0 510(6)=2 510(3)=1 509()=0 510(6)=2 510(3)=1 509()=0 510(6)=0 510(3)=0");
    }

    @Says("FAULTS of a second, the first that holds: 1 two groups that clash are shown (behind it); 2 a group began, though one that clashes with it is not shown and has an age below the seconds between its end and this beginning; 3 a group ended whose age, before it became 0, was below its least time; 4 a group is shown with an age above its most time, and one that clashes with it waits. 0 none.")
    static void faults() {
        Script.then(plan(2, "AB1-1"), "509()=0 501(0,1,0)=1 509()=1 509()=1");
        // A ended a second ago, B begins: two are asked for, then one
        Script.then(plan(3, "A1-1;C1-1;B1-1"), "501(0,1,2)=1 509()=0 509()=2 501(0,1,1)=1 2*509()=0");
        // B ended, A begins
        Script.then(plan(3, "B1-1;C1-1;A1-1"), "501(1,0,2)=1 509()=0 509()=2 501(1,0,1)=1 2*509()=0");
        // first 2, then 3: C ended too early, too
        Script.then(plan(3, "A1-1;C1-1;B1-1"), "501(0,1,2)=1 502(2,2)=1 509()=0 509()=2 501(0,1,1)=1 509()=0 509()=3");
        // first 3, then 4: B ended too early, and A, shown for too long, clashes with one that waits
        Script.then(plan(4, "AB2-2;AD9-9;C1-1"), "501(0,2,0)=1 503(0,1)=1 507(2,1)=1 507(3,2)=1 509()=0 509()=4 502(1,3)=1 507(2,1)=1 507(3,2)=1 509()=0 509()=3");
        // first 1, then 3
        Script.then(plan(3, "A1-1;BC1-1"), "501(1,2,0)=1 502(0,2)=1 509()=1");
    }

    @Says({"512: The proof over all states, at most so many (1 .. 400): 1 all were found, and there is no fault; 0 there is one: the first that is met; 2 there are more.", "512: BAD: another number, no plan: what was proved is gone."})
    static void prove() {
        Script.on("512(400)=-1 512(1)=-1 513()=0");
        Script.then(plan(1, "A1-1"), "512(0)=-1 512(401)=-1 512(-1)=-1 513()=0 512(400)=1 513()=32 512(32)=1 513()=32 512(31)=2 513()=31 512(1)=2 513()=1 512(401)=-1 513()=0 512(32)=1 517()=1 512(0)=-1 513()=0 517()=0 515(0)=-2 518(0)=0");
        Script.then(plan(2, "AB1-1"), "501(0,1,0)=1 512(1)=0 513()=1 512(400)=0 513()=1");
        // the fault behind the second state is met before a third one is found, not before the second one is
        Script.then(plan(2, "A1-2;B1-1"), "502(0,3)=1 512(400)=0 513()=2 512(2)=0 513()=2 512(1)=2 513()=1");
    }

    @Says({"514: The row of seconds to the fault (from the first state on, by those through which it was found)", "514: BAD: the last proof was not 0; none such."})
    static void row() {
        Script.then(plan(2, "AB1-1"), "514(0,0)=-1 501(0,1,0)=1 512(400)=0 514(0,0)=0 514(0,1)=0 514(0,2)=0 514(0,3)=3 514(0,4)=0 514(0,5)=0 514(0,6)=1 514(0,7)=-1 514(0,-1)=-1 514(1,0)=-1 514(-1,0)=-1 512(0)=-1 514(0,6)=-1");
        // by T 1 (event 0), then B's call ends the phase: a second too early
        Script.then(plan(2, "A1-2;B1-1"), "502(0,2)=1 512(400)=0 513()=2 514(0,0)=2 514(0,6)=3 514(1,6)=-1 514(0,2)=1 514(0,3)=2 502(0,3)=1 512(400)=0");
        Script.then(plan(2, "A2-2;B1-1"), "502(0,3)=1 512(400)=0 514(0,0)=0 514(0,3)=1 514(0,6)=0 514(1,0)=0 514(1,2)=1 514(1,3)=2 514(1,6)=3 514(2,0)=-1 502(0,1)=1 512(400)=1 514(0,0)=-1 512(1)=2 514(0,0)=-1");
    }

    @Says({"515: of all states in which it does, as many as there can be until it does not", "515: 0: it never waits; - 1: without end.", "515: NONE: the last proof was not 1, no such group."})
    static void longest() {
        Script.then(plan(2, "A1-31"), "515(0)=-2 512(400)=1 515(0)=0 515(1)=-1 515(2)=-2 515(-1)=-2 515(MAX)=-2 512(9)=2 515(1)=-2 515(0)=-2 512(0)=-1 515(0)=-2");
        // a call is answered in its own second; then in the next one; then three seconds behind it
        Script.then(plan(2, "A1-1;B1-1"), "512(400)=1 515(0)=0 515(1)=0");
        Script.then(plan(2, "A2-2;B1-1"), "512(400)=1 515(0)=0 515(1)=1");
        Script.then(plan(2, "A4-4;B1-1"), "512(400)=1 515(0)=0 515(1)=3 502(0,5)=1 512(400)=0 515(1)=-2");
        // as long as one plan is wanted behind the other one, each begins with A: B waits without end; by one of them alone it does not
        Script.then(plan(2, "A4-4;B1-1"), "504'A4-4;B1-1' 505()=2 512(400)=1 515(0)=0 515(1)=-1");
    }

    @Says({"516: The k-th group that can wait without end.", "516: BAD: none such, or the last proof was not 1."})
    static void ring() {
        Script.then(plan(3, "B1-1"), "516(0)=-1 512(400)=1 516(0)=0 516(1)=2 516(2)=-1 516(-1)=-1 516(MAX)=-1 512(9)=2 516(0)=-1 512(400)=1 516(1)=2 512(0)=-1 516(0)=-1");
        Script.then(plan(2, "A1-1;B1-1"), "512(400)=1 516(0)=-1 516(1)=-1");
        Script.then(plan(2, "A4-4;B1-1"), "504'A4-4;B1-1' 505()=2 512(400)=1 516(0)=1 516(1)=-1 502(0,5)=1 512(400)=0 516(0)=-1");
    }

    @Says("517: Whether the last proof was 1 and nobody can wait without end.")
    static void answered() {
        Script.then(plan(2, "A4-4;B1-1"), "517()=0 512(400)=1 517()=1 512(3)=2 517()=0 512(400)=1 517()=1 502(0,5)=1 517()=0 512(400)=0 517()=0");
        Script.then(plan(2, "A1-31"), "512(400)=1 517()=0");
        Script.then(plan(1, "A1-1"), "512(400)=1 517()=1 512(401)=-1 517()=0");
    }

    @Says("513: How many states were found (0 without a proof).")
    static void statesFound() {
        Script.on("513()=0 504'A1-1' 505()=1 513()=0 512(400)=1 513()=32 512(7)=2 513()=7 509()=0 513()=7 502(0,1)=1 513()=0 512(32)=1 513()=32 512(0)=-1 513()=0 512(400)=1 500(1)=0 513()=0");
        Script.then(plan(2, "AB1-1"), "501(0,1,0)=1 513()=0 512(400)=0 513()=1");
    }

    @Says("506: How many plans there are.")
    static void program() {
        Script.on("506()=0 504'A1-1' 506()=0 505()=1 506()=1 505()=-1 506()=1 504'A1-2;A1-2' 505()=2 506()=2 504'A1-1' 505()=1 506()=3 504'A1-1' 505()=-5 506()=3 502(0,1)=1 506()=3 500(0)!argument 506()=3 500(1)=0 506()=0");
    }

    @Says({"518: for so many seconds more (0 .. 100)", "518: (0: whether the state that it has is one.)", "518: False also: no plan, no proof, another number.", "518: in states that were found (also by a proof that ended otherwise than with 1), without faults: it is not changed"})
    static void same() {
        Script.on("518(0)=0 518(5)=0");
        Script.then(plan(1, "A1-1"), "518(0)=0 512(400)=1 518(0)=1 518(100)=1 518(-1)=0 518(101)=0 512(1)=2 518(0)=1 518(1)=0 512(5)=2 518(4)=1 518(5)=0 509()=0 518(3)=1 518(4)=0 510(0)=1 4*509()=0 518(0)=0 512(0)=-1 518(0)=0");
        Script.then(plan(2, "A2-2;B1-1"), "502(0,3)=1 512(400)=0 518(0)=1 518(1)=1 518(2)=0");
        // by what was told: B's call ends the phase before its least time
        Script.then(plan(2, "A1-2;B2-2"), "502(0,2)=1 512(400)=0 518(0)=1 518(1)=1 518(2)=0 507(1,1)=1 518(1)=0 518(0)=1");
    }

    @Says({"519: metresOut (to the end of the one way) by speed, rounded up, less metresIn (to the beginning of the other) by speed, cut off; 0 at least", "519: BAD: metres are not 0 .. 1,000, speed is not 1 .. 50."})
    static void from() {
        Script.on("519(-1,0,1)=-1 519(1001,0,1)=-1 519(0,-1,1)=-1 519(0,1001,1)=-1 519(0,0,0)=-1 519(0,0,51)=-1 519(0,0,-1)=-1 519(0,0,1)=0 519(0,1000,1)=1000 519(1000,1000,50)=0 519(0,1000,50)=20 519(9,21,5)=4 519(10,20,5)=2 519(10,21,5)=3 519(1000,0,1)=0 519(4,1,5)=1");
    }

    @Says("511: BAD: none such, no plan.")
    static void shown() {
        Script.on("511(0)=-1");
        Script.then(plan(2, "A1-1;B1-1"), "511(-1)=-1 511(2)=-1 511(0)=1 511(1)=0 501(0,1,1)=1 509()=0 511(0)=0 511(1)=0 509()=0 511(0)=0 511(1)=1");
    }

    @Says({"STATES are all that machines can be: equal ones are one.", "512: at most so many (1 .. 400)"})
    static void states() {
        // five phases of one group, each for a second: 31 seconds until its age stays, then five more
        Script.then(plan(1, "A1-1;A1-1;A1-1;A1-1;A1-1"), "512(35)=2 513()=35 517()=0 512(36)=1 513()=36 515(0)=0 517()=1");
        // three plans of two phases: 1, 3, 5 states behind 0, 1, 2 seconds, then 6 for each age
        Script.then(plan(1, "A1-1;A1-1"), "504'A1-1;A1-1' 505()=2 504'A1-1;A1-1' 505()=2 512(183)=1 513()=183 512(182)=2");
        // two sides; on each one 2 while it is shown, 2 behind the end, then 14 times 4, by who waits
        Script.then(plan(2, "A1-1;B1-1"), "501(0,1,15)=1 501(1,0,15)=1 512(120)=1 513()=120 512(119)=2 512(400)=1 515(0)=30 515(1)=30 517()=1");
        // by the second plan B is never shown
        Script.then(plan(2, "A1-1;B1-1"), "512(400)=1 515(1)=0 504'A1-1;A1-1' 505()=2 513()=0 515(1)=-2 512(400)=1 515(0)=0 515(1)=-1 516(0)=1 517()=0");
    }

    @Says("514: (from the first state on, by those through which it was found): of second k, from 0 on: 0 its event, 1 the plan behind it, 2 the phase, 3 groups that are shown as bits, 4 clearing left, 5 groups that wait, 6 its fault.")
    static void longRows() {
        // the second plan is wanted, and shows what must not be, in its second phase
        RoadHouse x = Script.then(plan(2, "A1-9"), "504'B2-2;AB1-1' 505()=2 501(0,1,0)=1 512(400)=0 514(0,0)=4 514(0,1)=1 514(0,2)=0 514(0,3)=2 514(0,5)=0 514(0,6)=0");
        Script.then(x, "514(1,0)=0 514(1,1)=1 514(1,2)=0 514(1,3)=2 514(1,6)=0 514(2,0)=0 514(2,1)=1 514(2,2)=1 514(2,3)=3 514(2,6)=1 514(3,0)=-1");
        // F calls in the second second, when A is shown for too long
        Script.then(plan(6, "A5-31"), "501(0,5,0)=1 503(0,1)=1 512(400)=0 513()=12 514(0,0)=0 514(0,6)=0 514(1,0)=6 514(1,5)=32 514(1,3)=1 514(1,6)=4 514(2,0)=-1");
        // while it clears, F waits: the fault comes when A begins too soon behind C
        Script.then(plan(3, "C1-1;B1-1;A1-1"), "501(2,1,9)=1 501(2,0,15)=1 512(400)=0 514(0,4)=9 514(8,4)=1 514(9,4)=0 514(9,2)=1 514(10,6)=2 514(10,2)=2 514(11,0)=-1 514(5,3)=0 514(5,6)=0");
    }

    public static void main(String[] args) {
        Script.run(SignalsSentencesTest.class);
    }
}
