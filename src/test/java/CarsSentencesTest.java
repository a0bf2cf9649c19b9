/** Part CARS, sentence by sentence. */
public final class CarsSentencesTest {
    /** Some cells with room for 1,000, as fast as can be, of which each sends and takes at most 100. */
    private static RoadHouse cells(int n, String rows) {
        return Script.then(new RoadHouse(), n + "*600(#,1000,100,100)=1 " + rows);
    }

    @Says("Rooms, mosts and speeds are 0, no joins, step 0.")
    static void atFirst() {
        Script.on("604(0,1)=0 604(23,0)=1 608(0)=0 609()=0 610()=1 611(0)=0 612(0,1)=-1 613(0,1,0)=-1 616(0,0,0)=0 615(0,0)=0 618(0,0)=-1 620(0)=-1 622(0)=0 623(0)=-1 605(0,1,10)=1 607(0)=0 607(1)=1 608(0)=0 611(0)=10 623(1)=24 600(0,0,100,100)=1 607(1)=2 608(0)=0 600(0,10,100,0)=1 607(1)=3 608(0)=0"
            + " 600(0,10,0,100)=1 607(1)=4 608(0)=0 600(0,10,100,100)=1 607(1)=5 608(0)=10");
    }

    @Says({"600: A cell's room (0 .. 100,000), most (0 .. 100,000), speed (0 .. 100).", "600: False: none such; more is in it than that room, now or in what was kept.", "CELLS are 0 .. n - 1."})
    static void cell() {
        Script.on("600(-1,0,0,0)=0 600(24,0,0,0)=0 600(0,-1,0,0)=0 600(0,100001,0,0)=0 600(0,0,-1,0)=0 600(0,0,100001,0)=0 600(0,0,0,-1)=0 600(0,0,0,101)=0 600(0,0,0,0)=1 600(23,100000,100000,100)=1 604(23,100000)=1 604(23,100001)=0");
        Script.on("600(0,100,9,9)=1 604(0,50)=1 600(0,49,9,9)=0 604(0,100)=1 604(0,50)=1 600(0,50,9,9)=1 604(0,51)=0 621()=0 604(0,10)=1 621()=1 600(0,49,9,9)=0 600(0,50,8,8)=1 604(0,0)=1 600(0,9,9,9)=0 600(0,49,9,9)=0 600(0,50,9,9)=1");
        Script.on("600(7,100,9,9)=1 604(7,50)=1 621()=0 604(7,10)=1 600(7,49,9,9)=0 600(7,50,9,9)=1 600(8,0,9,9)=1");
    }

    @Says({"601: False: no such two, there already, or 4 from a or to b.", "JOINS lead from a cell to another one, at most 4 from each and 4 to each"})
    static void join() {
        Script.on("601(-1,0)=0 601(24,0)=0 601(0,-1)=0 601(0,24)=0 601(0,0)=0 601(23,23)=0 601(0,1)=1 601(0,1)=0 601(1,0)=1 601(0,2)=1 601(0,3)=1 601(0,4)=1 601(0,5)=0 601(0,4)=0 601(2,1)=1 601(3,1)=1 601(4,1)=1 601(5,1)=0 601(5,0)=1 601(23,22)=1");
    }

    @Says({"602: The share of a join; its rest is 0 again, in what was kept, too.", "602: False: none such; not 0 <= above <= below <= 1,000, below not 0.", "A join has a SHARE (a fraction, 0 / 1 at first) with a REST (0)"})
    static void share() {
        Script.on("602(0,1,0,1)=0 601(0,1)=1 602(1,0,0,1)=0 602(-1,1,0,1)=0 602(0,24,0,1)=0 602(0,1,-1,1)=0 602(0,1,2,1)=0 602(0,1,0,0)=0 602(0,1,0,-1)=0 602(0,1,1001,1001)=0 602(0,1,0,1001)=0 613(0,1,0)=0 613(0,1,1)=1 602(0,1,0,1000)=1 613(0,1,1)=1000 602(0,1,1000,1000)=1 602(0,1,0,1)=1");
        Script.then(cells(3, "601(0,1)=1 601(0,2)=1 602(0,1,1,3)=1 604(0,100)=1"), "607(1)=1 612(0,1)=33 612(0,2)=67 613(0,1,0)=1 613(0,1,1)=3 621()=0 602(0,1,1,4)=1 613(0,1,0)=0 622(0)=1 613(0,1,0)=0 613(0,1,1)=4 602(0,1,5,4)=0 613(0,1,1)=4");
        // what is refused leaves the rest
        Script.then(cells(3, "601(0,1)=1 601(0,2)=1 602(0,1,1,3)=1 604(0,100)=1"), "607(1)=1 621()=0 602(0,1,4,3)=0 602(0,2,1,2)=1 613(0,1,0)=1 622(0)=1 613(0,1,0)=1");
        Script.then(cells(6, "601(5,1)=1 601(3,1)=1 601(3,2)=1 602(3,1,1,3)=1 604(3,100)=1"), "607(1)=1 613(3,1,0)=1 621()=0 602(3,1,2,7)=1 613(3,1,0)=0 622(0)=1 613(3,1,0)=0 613(3,1,1)=7 613(5,1,0)=0");
        // at first all goes by the last one
        Script.then(cells(3, "601(0,1)=1 601(0,2)=1 604(0,50)=1"), "607(1)=1 612(0,1)=0 612(0,2)=50");
    }

    @Says({"What is wanted and not taken stays.", "603: False: none such.", "and a RANK 0 .. 9 (0)", "From the joins to it, those with lesser rank first, of one rank the lesser cell first, it takes what each one wants, as far as it goes."})
    static void rank() {
        Script.on("603(1,0,0)=0 601(0,1)=1 603(0,1,0)=0 603(1,0,-1)=0 603(1,0,10)=0 603(1,0,9)=1 603(1,0,0)=1 603(24,0,0)=0 603(1,-1,0)=0");
        Script.then(cells(3, "601(1,2)=1 601(0,2)=1 604(0,90)=1 604(1,90)=1"), "621()=0 607(1)=1 612(0,2)=90 612(1,2)=10 622(0)=1 603(2,0,1)=1 607(1)=1 612(0,2)=10 612(1,2)=90 622(0)=1 603(2,1,9)=1 603(2,0,10)=0 607(1)=1 612(0,2)=90 622(0)=1 603(2,1,1)=1 607(1)=1 612(0,2)=90");
    }

    @Says({"604: So much is in a cell (what was there is not any more): what comes or goes by that counts as put.", "604: False: none such, or it has no room for it."})
    static void put() {
        Script.then(cells(1, "604(-1,0)=0 604(24,0)=0 604(0,-1)=0 604(0,1001)=0 604(0,1000)=1 604(0,1001)=0 608(0)=1000 604(0,7)=1 608(0)=7 610()=1 604(0,0)=1 610()=1 604(1,0)=1 604(1,1)=0 616(0,1,990)=0 604(0,1000)=1"), "610()=1");
    }

    @Says({"605: So much (0 .. 100,000) comes to a cell's line in a step to come (beside what was told before).", "605: False: none such, that step was done; 200 such were told.", "STEPS are 1 .. 200."})
    static void enters() {
        Script.then(cells(1, "605(-1,1,0)=0 605(24,1,0)=0 605(0,0,5)=0 605(0,201,5)=0 605(0,1,-1)=0 605(0,1,100001)=0 605(0,1,0)=1 605(0,1,30)=1 605(0,1,40)=1 605(0,200,100000)=1"), "607(1)=1 608(0)=70 610()=1 605(0,1,5)=0 605(0,2,5)=1 607(1)=2 608(0)=5 609()=70 607(200)=200 605(0,200,5)=0 605(0,201,5)=0 610()=1");
        Script.on("200*605(0,200,#)=1 605(0,200,1)=0 605(1,1,0)=0 606(0,200,0)=1");
    }

    @Says({"606: A signal from a step to come on.", "606: False: none such; 200 settings (signals and closings) were told.", "SIGNALS: green (at first) or not."})
    static void signal() {
        RoadHouse x = cells(1, "606(-1,1,0)=0 606(24,1,0)=0 606(0,0,0)=0 606(0,-1,0)=0 606(0,201,0)=0 604(0,1000)=1 607(1)=1 609()=100 606(0,1,0)=0 606(0,3,0)=1 606(0,5,7)=1 607(1)=2 609()=200 607(1)=3 609()=200 607(1)=4 609()=200 607(1)=5 609()=300");
        Script.then(x, "198*606(0,200,0)=1 606(0,200,0)=0 614(0,200,1,1)=0 605(0,200,1)=1");
        Script.on("120*606(0,200,0)=1 80*614(0,200,1,2)=1 606(0,200,1)=0 614(1,200,1,2)=0");
    }

    @Says({"607: So many steps (0 .. 200), as long as there are steps: the step that was reached.", "607: BAD: another number."})
    static void run() {
        Script.on("607(-1)=-1 607(201)=-1 607(0)=0 607(150)=150 607(0)=150 607(-1)=-1 607(100)=200 607(1)=200 607(200)=200 607(201)=-1");
    }

    @Says({"608: BAD: none such.", "611: BAD: none such.", "612: BAD: none such.", "613: BAD: none such."})
    static void noCells() {
        Script.then(cells(2, "601(0,1)=1 604(0,150)=1 604(1,1000)=1"), "608(-1)=-1 608(24)=-1 608(23)=0 611(-1)=-1 611(24)=-1 611(23)=0 612(1,0)=-1 612(0,2)=-1 612(-1,1)=-1 612(0,24)=-1 612(0,1)=0 613(1,0,0)=-1 613(0,1,-1)=-1 613(0,1,2)=-1 613(0,1,0)=0 607(1)=1 611(0)=100 611(1)=0 609()=100 608(1)=900 607(1)=2 612(0,1)=100 611(0)=100");
    }

    @Says({"614: A closing from a step to come on (a fraction as of share()).", "614: False: none such; 200 settings were told.", "CLOSINGS: a fraction of MOST that is left (1 / 1 at first).", "The CAP of a cell is its MOST times the fraction of its closing, cut off."})
    static void close() {
        Script.on("614(-1,1,1,1)=0 614(24,1,1,1)=0 614(0,0,1,1)=0 614(0,201,1,1)=0 614(0,1,-1,1)=0 614(0,1,2,1)=0 614(0,1,0,0)=0 614(0,1,1,1001)=0 614(0,1,1001,1001)=0 614(0,200,1000,1000)=1 614(0,200,0,1)=1 607(7)=7 614(0,7,1,1)=0 614(0,8,1,1)=1");
        Script.on("600(0,100,99,100)=1 604(0,100)=1 614(0,1,1,10)=1 614(0,3,0,1)=1 614(0,4,2,99)=1 607(1)=1 609()=9 607(1)=2 609()=18 607(1)=3 609()=18 607(1)=4 609()=20 605(0,5,50)=1 607(1)=5 608(0)=80 609()=22");
        Script.on("199*614(0,200,1,2)=1 606(0,200,0)=1 614(0,200,1,2)=0 606(0,200,0)=0");
    }

    @Says("SETTINGS with a step hold from that step on, until the next one of the same kind for the same cell; of two with one step the one told later.")
    static void settings() {
        Script.then(cells(2, "604(0,1000)=1 606(0,2,0)=1 606(0,2,1)=1 614(0,3,1,10)=1 606(1,3,0)=1 607(2)=2 609()=200 607(1)=3 609()=210 606(0,5,0)=1 606(0,4,1)=1 607(1)=4 609()=220 607(1)=5 609()=220 606(0,6,1)=1 606(0,6,0)=1"), "607(2)=7 609()=220");
        // told first, for a later step: it holds from then on
        Script.then(cells(1, "606(0,4,0)=1 606(0,2,1)=1 606(0,3,1)=1 604(0,1000)=1 607(3)=3 609()=300"), "607(1)=4 609()=300");
    }

    @Says({"615: A cell is a ramp with a LEAST of 1 .. 20, or none (0): what it was.", "615: BAD: none such.", "A ramp with LEAST m sends in those steps alone in which (t - 1) modulo 2 m is below m."})
    static void meter() {
        Script.then(cells(1, "615(-1,1)=-1 615(24,1)=-1 615(0,-1)=-1 615(0,21)=-1 615(0,20)=0 615(0,21)=-1 615(0,0)=20 615(0,1)=0 615(0,2)=1 604(0,1000)=1 607(1)=1 609()=100 607(1)=2 609()=200 607(1)=3 609()=200 607(1)=4 609()=200 607(1)=5 609()=300 615(0,1)=2 607(1)=6 609()=300 607(1)=7 609()=400"), "615(0,0)=1 607(1)=8 609()=500");
        Script.then(cells(1, "615(0,3)=0 604(0,1000)=1"), "607(3)=3 609()=300 607(3)=6 609()=300 607(1)=7 609()=400 607(5)=12 609()=600 607(1)=13 609()=700");
    }

    @Says({"616: A lane of a cell keeps so much of its room (kind 1; 0 .. 100,000), or nothing (kind 0): what it kept.", "616: BAD: none such.", "and of (room less what its lane keeps, less what is in it) times speed by 100, cut off; not below 0"})
    static void lane() {
        Script.on("616(-1,1,1)=-1 616(24,1,1)=-1 616(0,-1,1)=-1 616(0,2,1)=-1 616(0,1,-1)=-1 616(0,1,100001)=-1 616(0,1,100000)=0 616(0,1,0)=100000 616(0,1,5)=0 616(0,0,7)=5 616(0,0,0)=0");
        Script.on("600(0,100,90,100)=1 605(0,1,999)=1 606(0,1,0)=1 616(0,1,95)=0 607(1)=1 608(0)=5 607(1)=2 608(0)=5 616(0,1,96)=95 607(1)=3 608(0)=5 616(0,0,0)=96 600(0,100,90,10)=1 607(1)=4 608(0)=14 607(1)=5 608(0)=22 600(0,100,3,99)=1 607(1)=6 608(0)=25 610()=1");
        Script.on("600(0,100,100,99)=1 605(0,1,999)=1 606(0,1,0)=1 607(1)=1 608(0)=99 607(1)=2 608(0)=99");
    }

    @Says({"617: So much (any number) was measured in a cell behind a step of 0 .. 200 (done or to come: it counts as soon as it is done; 0: now, as long as no step was done).", "617: False: none such; 60 were told."})
    static void read() {
        Script.on("617(-1,0,0)=0 617(24,0,0)=0 617(0,-1,0)=0 617(0,201,0)=0 617(0,200,5)=1 617(23,0,MIN)=1 58*617(0,1,#)=1 617(0,1,0)=0 617(0,0,0)=0");
        Script.then(cells(1, "604(0,250)=1 617(0,0,250)=1 617(0,0,9)=1 617(0,2,50)=1 617(0,1,151)=1 618(0,1)=0 618(0,2)=241 618(1,0)=-1 604(0,251)=1 618(0,2)=1 618(1,2)=242 604(0,250)=1 607(1)=1 618(0,0)=0 618(0,1)=1 618(0,2)=-1 618(1,0)=-1"), "617(0,1,149)=1 618(1,2)=1 607(1)=2 618(2,0)=-1 617(0,2,51)=1 618(2,1)=2 618(2,2)=-1");
    }

    @Says({"618: (as told; those of step 0 count only as long as no step was done)", "618: 2 how much more is so than was measured (in 32 bits that wrap)", "618: BAD: none such."})
    static void differs() {
        Script.on("618(0,0)=-1 617(3,0,MIN)=1 617(4,0,1)=1 617(5,0,0)=1 617(6,0,MAX)=1 618(0,0)=3 618(0,1)=0 618(0,2)=-2147483648 618(1,0)=4 618(1,2)=-1 618(2,0)=6 618(2,2)=-2147483647 618(3,0)=-1 618(-1,0)=-1 618(0,3)=-1 618(0,-1)=-1 607(1)=1 618(0,0)=-1");
        Script.then(cells(1, "604(0,1000)=1 617(0,1,MIN)=1 621()=0 607(1)=1 618(0,1)=1 618(0,2)=-2147482748"), "622(0)=1 618(0,2)=-1 607(1)=1 618(0,2)=-2147482748");
        Script.then(cells(6, "604(5,150)=1 604(4,999)=1 617(5,1,49)=1 617(4,1,899)=1 617(3,0,1)=1 618(0,0)=3 607(1)=1 618(0,0)=5 618(0,2)=1"), "618(1,0)=-1");
    }

    @Says({"619: False: no such cells (cell, act), above is below 0; there are 12.", "It is HELD, if some rule says so: a rule (cell, above, act) holds the cell act back, if there is more than above in the cell."})
    static void rule() {
        Script.on("619(-1,0,0)=0 619(24,0,0)=0 619(0,0,-1)=0 619(0,0,24)=0 619(0,-1,0)=0 619(0,0,0)=1 619(0,0,0)=1 619(23,MAX,23)=1 9*619(1,5,2)=1 619(1,5,2)=0");
        Script.then(cells(2, "604(0,300)=1 604(1,150)=1 619(1,100,0)=1"), "607(1)=1 609()=100 608(0)=300 608(1)=50 607(1)=2 609()=250 608(0)=200 604(1,100)=1 607(1)=3 608(0)=100 604(1,101)=1 607(1)=4 608(0)=100 620(0)=100 620(1)=400 620(2)=-1");
    }

    @Says({"620: Time k at which some rule held, in the order of steps, then of rules (two that hold one cell: twice): the step times 100 and the cell that was held.", "620: BAD: none such, or more than the first 300."})
    static void acted() {
        Script.then(cells(1, "604(0,5)=1 600(0,5,0,0)=1 619(0,4,7)=1 619(0,5,8)=1 619(0,3,7)=1 619(0,0,0)=1 620(0)=-1"), "607(1)=1 620(0)=107 620(1)=107 620(2)=100 620(3)=-1 620(-1)=-1 607(1)=2 620(3)=207 620(5)=200 620(6)=-1 607(98)=100 620(299)=10000 620(300)=-1 607(1)=101 620(299)=10000 620(300)=-1 620(MAX)=-1");
    }

    @Says({"621: its number, 0 .. 3.", "621: BAD: 4 were kept.", "622: False: none such."})
    static void save() {
        Script.then(cells(1, "622(0)=0 621()=0 604(0,5)=1 3*621()=#+1 621()=-1 622(-1)=0 622(4)=0 622(0)=1 608(0)=0 622(3)=1 608(0)=5 621()=-1"), "610()=1");
    }

    @Says({"621: All that steps and put() change, and what rules held, is kept (but not settings, lines' comings, joins, shares, rules themselves, measures)", "622: What was kept is so again; steps behind it are undone (what was told for them holds when they are done again)."})
    static void back() {
        RoadHouse x = cells(2, "601(0,1)=1 604(0,300)=1 619(0,0,1)=1 605(0,1,40)=1 607(1)=1 621()=0 605(0,2,30)=1 606(0,3,0)=1 617(0,2,0)=1 607(2)=3 608(0)=170 608(1)=200 609()=0 612(0,1)=200 620(2)=301 611(0)=100 611(1)=200 623(3)=22 624(0,2)=1000");
        Script.then(x, "604(1,0)=1 610()=1 622(0)=1 610()=1 608(0)=240 608(1)=100 612(0,1)=100 620(0)=101 620(1)=-1 611(0)=0 611(1)=0 623(2)=-1 624(0,2)=-1 618(0,0)=-1 605(1,1,5)=0 607(2)=3 608(0)=170 608(1)=200 611(0)=100 620(2)=301 618(0,2)=170 610()=1");
    }

    @Says({"623: How many cells had no room left (room less the lane's, as it is set now) behind a step that was done.", "623: BAD: none such."})
    static void over() {
        Script.then(cells(2, "600(0,50,0,0)=1 604(0,50)=1 623(0)=-1 623(1)=-1 607(1)=1 623(0)=-1 623(2)=-1 623(-1)=-1 623(1)=23 616(1,1,999)=0 623(1)=23 616(1,1,1000)=999 623(1)=24 616(1,1,1001)=1000 623(1)=24 600(0,51,0,0)=1 623(1)=23 616(0,1,1)=0"), "623(1)=24 604(0,0)=1 623(1)=24");
        Script.then(cells(6, "604(5,1000)=1 604(4,999)=1 606(5,1,0)=1 606(4,1,0)=1 607(1)=1 623(1)=19"), "616(4,1,1)=0 623(1)=20");
    }

    @Says({"624: BAD: none such.", "TOLL of a cell in a step: what left it then, 10 times in steps with (t - 1) modulo 60 below 20, else 4 times."})
    static void toll() {
        Script.on("600(0,100000,3,100)=1 604(0,1000)=1 624(0,1)=-1 607(61)=61 624(-1,1)=-1 624(24,1)=-1 624(0,0)=-1 624(0,62)=-1 624(0,-1)=-1 624(0,1)=30 624(0,20)=30 624(0,21)=12 624(0,60)=12 624(0,61)=30 624(1,1)=0 624(23,61)=0");
        Script.then(cells(2, "601(0,1)=1 600(1,30,30,100)=1 604(0,100)=1 606(1,1,0)=1"), "607(2)=2 624(0,1)=300 624(0,2)=0 624(1,1)=0");
        Script.then(cells(6, "604(5,150)=1 604(4,7)=1"), "607(2)=2 624(5,1)=1000 624(5,2)=500 624(4,1)=70 624(4,2)=0 624(3,1)=0");
    }

    @Says("A cell CAN SEND the lesser of what is in it and its cap; it SENDS that, if its signal is green, it is not held, and, if it is a ramp, in such steps; else 0. An exit's all goes OUT.")
    static void sends() {
        Script.then(cells(1, "604(0,130)=1"), "607(1)=1 609()=100 608(0)=30 607(1)=2 609()=130 608(0)=0 611(0)=0");
        // what it can send and does not is its delay
        Script.then(cells(1, "604(0,130)=1 606(0,1,0)=1"), "607(1)=1 609()=0 611(0)=100 607(1)=2 611(0)=200");
    }

    @Says({"what is sent times above, and the rest, by below, cut off: but no more than is left of what is sent; what remains of the division is the new rest.", "The last one wants what is left."})
    static void shares() {
        Script.then(cells(4, "601(0,3)=1 601(0,1)=1 601(0,2)=1 602(0,3,2,3)=1 602(0,1,1,2)=1 604(0,101)=1 600(0,1000,101,100)=1"), "607(1)=1 612(0,3)=67 612(0,1)=34 612(0,2)=0 613(0,3,0)=1 613(0,1,0)=1 604(0,10)=1 607(1)=2 612(0,3)=74 612(0,1)=37 612(0,2)=0 613(0,3,0)=0 613(0,1,0)=1");
        Script.then(cells(3, "601(0,1)=1 601(0,2)=1 602(0,1,1,4)=1 604(0,3)=1"), "607(1)=1 612(0,1)=0 612(0,2)=3 613(0,1,0)=3 613(0,1,1)=4 604(0,1)=1 607(1)=2 612(0,1)=1 612(0,2)=3 613(0,1,0)=0");
    }

    @Says({"What comes to the LINE in step t (by enters()) comes before that; behind the joins it takes of its line what it still can.", "The DELAY of a cell grows by what it can send, less what it moved, and by what is in its line behind the step."})
    static void line() {
        Script.then(cells(2, "601(0,1)=1 604(0,70)=1 605(1,1,50)=1 606(1,1,0)=1"), "607(1)=1 612(0,1)=70 608(1)=100 611(1)=20 611(0)=0 607(1)=2 608(1)=120 611(1)=120 610()=1");
        // from its beginning alone: what leaves a cell in a step makes no room in it
        Script.on("600(0,10,10,100)=1 600(1,10,10,100)=1 601(0,1)=1 604(0,10)=1 604(1,10)=1 607(1)=1 608(0)=10 608(1)=0 611(0)=10 607(1)=2 608(1)=10 609()=10");
    }

    @Says("610: THE THEOREM.")
    static void kept() {
        Script.then(cells(3, "601(0,1)=1 601(1,2)=1 601(2,0)=1 604(0,900)=1 604(1,1000)=1 605(2,3,100000)=1 610()=1"), "607(50)=50 610()=1 604(1,0)=1 610()=1 621()=0 607(9)=59 610()=1 622(0)=1 610()=1");
    }

    public static void main(String[] args) {
        Script.run(CarsSentencesTest.class);
    }
}
