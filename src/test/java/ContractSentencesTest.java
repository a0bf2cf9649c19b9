import java.math.BigInteger;

/** Part CONTRACT, sentence by sentence. */
public final class ContractSentencesTest {
    private static void reads(String text, long want) {
        RoadHouse x = Script.on("700'" + text + "' 701()=" + want);
        if (want < 0) {
            Script.then(x, "705(0,0,0)=-1 723(0)=-1 722(0)!index 701()=-1 700'x=1' 701()=1");
        } else {
            Script.then(x, "722(" + (want - 1) + ")=0 722(" + want + ")!index 701()=-1000");
        }
    }

    private static RoadHouse items(String text, String rows) {
        RoadHouse x = Script.on("700'" + text + "'");
        Script.then(x, "701()=" + text.split(";").length + " " + rows);
        return x;
    }

    /** What an expression with a step measures for a shape of kind 1. */
    private static void measures(String expression, int a, int b, int c, long want) {
        Script.then(items("x=" + expression, ""), "703(1," + a + "," + b + "," + c + ")=0 704(0,0,0)=1 705(0,0,0)=" + want + " 706(0,0,0)=" + want + " 709(0,0)=-1");
    }

    private static void billIs(RoadHouse x, String want) {
        for (int i = 0; i < want.length(); i++) {
            Script.due("sign " + i + " of " + want, x.act(723, i, 0, 0, 0, 0), want.charAt(i));
        }
        Script.then(x, "723(" + want.length() + ")=-1 723(-1)=-1 723(MAX)=-1 723(MIN)=-1");
    }

    @Says("No items, shapes, entries.")
    static void atFirst() {
        Script.on("705(0,0,0)=-1 704(0,0,0)=0 722(0)!index 708(0,0)=-1 709(0,0)=-1 707(0,0)=0 707(11,4)=0 713(11)=0 716(11)=0 718(0,0)=0 720(4)=0 721(0,0)=-1 723(0)=-1 719(0,0,0)=-1 703(0,0,0,0)=0");
    }

    @Says({"700: A sign of 32 .. 126 is collected, at most 200.", "700: False: another one, no room."})
    static void unit() {
        Script.on("700(31)=0 700(127)=0 700(-1)=0 700(377)=0 100*700(32)=1 100*700(126)=1 700(120)=0 701()=-1 200*700(32)=1 700(32)=0 701()=-1 700'x=a' 701()=1");
    }

    @Says({"701: how many.", "701: - 1 less the number of its first word that is wrong (if it ends too early, of the one behind the last): items stay.", "THE TEXT is an item, and any number of times ; and an item.", "WORDS are rows of small letters, rows of digits, and other single signs; blanks lie between words, or not."})
    static void read() {
        reads("", -1);
        reads("   ", -1);
        reads("x", -2);
        reads("x=", -3);
        reads("x=a", 1);
        reads("  x =  a ~ 5 ", 1);
        reads("x=a;", -5);
        reads("x=a;y=b", 2);
        reads("x=a;;", -5);
        reads(";x=a", -1);
        reads("x==a", -3);
        reads("x a", -2);
        reads("x=a b", -4);
        reads("x=1 2", -4);
        reads("x=a y=b", -4);
        reads("x=a.y=b", -4);
        reads("x=a;y=A", -7);
        reads("x=a;y", -6);
        reads("x=a;y b", -6);
        reads("x=a;y==b", -7);
        reads("x=a;y=b;z;", -10);
        Script.on("700'x=7;' 701()=-5 700'x=a' 701()=1 703(1,5,3,2)=0 704(0,0,0)=1 705(0,0,0)=5");
        Script.on("700'x=a+1;' 701()=-7 700'x=a*2+1*b;y' 701()=-12 700'x=a' 701()=1 703(1,5,3,2)=0 704(0,0,0)=1 705(0,0,0)=5");
    }

    @Says({"An ITEM is a NAME (one to eight small letters)", "Items have different names", "701: a name that was"})
    static void names() {
        reads("abcdefgh=a", 1);
        reads("abcdefghi=a", -1);
        reads("X=a", -1);
        reads("7=a", -1);
        reads("a=a;k=k;b=a", 3);
        reads("x=a;x=b", -5);
        reads("xy=a;x=b;xyz=c;y=1", 4);
        reads("xy=a;x=b;xy=c", -9);
        reads("x y=a", -2);
    }

    @Says({"701: The name of a ninth item", "ITEMS (at most 8) are read from a text."})
    static void nineItems() {
        reads("a=1;b=1;c=1;d=1;e=1;f=1;g=1;h=1", 8);
        reads("a=1;b=1;c=1;d=1;e=1;f=1;g=1;h=1;i=1", -33);
        reads("a=1;b=1;c=1;d=1;e=1;f=1;g=1;h=1;", -33);
        reads("a=1;b=1;c=1;d=1;e=1;f=1;g=1;h=1;a", -33);
    }

    @Says({"a FACTOR, and any number of times * or / and a factor; a factor a number (0 .. 9,999), one of the letters k, a, b, c alone, or ( expression )", "701: a number of more than four digits"})
    static void factors() {
        reads("x=9999", 1);
        reads("x=0", 1);
        reads("x=0001", 1);
        reads("x=10000", -3);
        reads("x=00001", -3);
        reads("x=d", -3);
        reads("x=kk", -3);
        reads("x=a+ab", -5);
        reads("x=a+", -5);
        reads("x=+a", -3);
        reads("x=-a", -3);
        reads("x=a*-b", -5);
        reads("x=(a", -5);
        reads("x=a)", -4);
        reads("x=()", -4);
        reads("x=(a+)", -6);
        reads("x=(a)(b)", -6);
        reads("x=(a)b", -6);
        reads("x=((a)+k)*(b/c-1)", 1);
        reads("x=(a;y=b)", -5);
        reads("x=(a~5)", -5);
        reads("x=a%b", -4);
    }

    @Says({"and, or not, ~ and a number, its STEP (1 at first; 1 .. 9,999)", "701: a step of 0 are wrong"})
    static void steps() {
        reads("x=a~1", 1);
        reads("x=a~9999", 1);
        reads("x=a~0", -5);
        reads("x=a~0000", -5);
        reads("x=a~0001;y=b~2", 2);
        reads("x=a~10000", -5);
        reads("x=a~", -5);
        reads("x=a~b", -5);
        reads("x=a~-1", -5);
        reads("x=a~5~6", -6);
        reads("x=a~5+1", -6);
        reads("x=~5", -3);
    }

    @Says({"an expression has at most 30 numbers, letters and signs + - * / together, and at most 10 brackets open at once", "701: the 31st thing of an expression, an 11th open bracket"})
    static void mostThings() {
        String fifteen = "a+1+a+1+a+1+a+1+a+1+a+1+a+1+a";
        reads("x=" + fifteen, 1);
        reads("x=" + fifteen + "-", -33);
        reads("x=" + fifteen + "-9", -33);
        reads("x=" + fifteen + "-b*c", -33);
        reads("x=" + fifteen + ";y=" + fifteen, 2);
        reads("x=((((((((((a))))))))))", 1);
        reads("x=(((((((((((a)))))))))))", -13);
        reads("x=((((((((((a+(b))))))))))))", -15);
        reads("x=((((((((((a))))))))))*((((((((((a))))))))))", 1);
        reads("x=(a)+(a)+(a)+(a)+(a)+(a)+(a)+(a)+(a)+(a)+(a)+(a)", 1);
    }

    @Says("701: Behind items that were read nothing more can be read: - 1000 then, and what was collected stays.")
    static void readOnce() {
        RoadHouse x = items("x=a", "701()=-1000 700'y=b' 701()=-1000 722(1)!index 197*700(32)=1 700(32)=0 701()=-1000 700(32)=0");
        Script.then(x, "722(0)=0");
    }

    @Says({"702: An item's cents, - 1,000,000 .. 1,000,000 (0 at first): 1.", "702: 0: other cents (that first: nothing is open).", "702: BAD: there is no such item: that is open."})
    static void rate() {
        RoadHouse x = items("x=1", "703(0,0,0,0)=0 704(0,0,0)=1 707(0,0)=0 702(0,1000001)=0 702(0,-1000001)=0 702(1,1000001)=0 702(-1,MIN)=0 709(0,0)=-1 702(0,1000000)=1 707(0,0)=1000000 702(0,1000001)=0 707(0,0)=1000000 702(0,-1000000)=1 707(0,0)=-1000000");
        Script.then(x, "702(1,5)=-1 702(-7,1000000)=-1 709(0,0)=1 709(0,1)=1 709(0,2)=-1 709(1,0)=1 709(1,1)=-7 709(1,2)=-1 709(2,0)=-1");
    }

    @Says({"703: BAD: none such; there are 40.", "SHAPES (at most 40) have four numbers k (its kind 0 .. 3), a, b, c (each - 9,999 .. 9,999)."})
    static void shape() {
        Script.on("703(-1,0,0,0)=-1 703(4,0,0,0)=-1 703(0,10000,0,0)=-1 703(0,-10000,0,0)=-1 703(0,0,10000,0)=-1 703(0,0,-10000,0)=-1 703(0,0,0,10000)=-1 703(0,0,0,-10000)=-1 703(3,9999,9999,9999)=0 703(0,-9999,-9999,-9999)=1 38*703(0,0,0,0)=2+# 703(0,0,0,0)=-1");
    }

    @Says({"704: False: none such; there are 60.", "704: (One that is open is told as open, too.)", "ENTRIES (at most 60) are of a shape, as it is then, in an item, in a month", "MONTHS are 0 .. 11."})
    static void into() {
        RoadHouse x = items("x=a;y=a/k", "704(0,0,0)=0 703(0,5,0,0)=0 704(-1,0,0)=0 704(1,0,0)=0 704(0,-1,0)=0 704(0,2,0)=0 704(0,0,-1)=0 704(0,0,12)=0 705(0,0,1)=0 704(0,0,0)=1 704(0,0,11)=1 704(0,1,0)=1 709(0,0)=0 709(0,1)=1 709(0,2)=0 709(1,0)=-1 705(1,0,0)=0 705(1,0,1)=1");
        Script.then(x, "57*704(0,0,1)=1 704(0,0,1)=0 704(0,1,1)=0 709(1,0)=-1 705(0,1,0)=285 722(0)=59");
        // as the shape was then
        Script.then(items("x=a", "703(0,5,0,0)=0 704(0,0,0)=1 719(0,7,1)=1 704(0,0,2)=1"), "705(0,0,0)=5 705(0,1,0)=2 705(0,2,0)=7");
    }

    @Says({"A MEASURE is what the expression is for a shape, all in 64 bits (what is beyond is lost), / cut off", "twice it and the step, by twice the step, down to a whole number, times the step"})
    static void measure() {
        measures("a-b-c", 10, 3, 2, 5);
        measures("a-(b-c)", 10, 3, 2, 9);
        measures("a+b*c", 10, 3, 2, 16);
        measures("(a+b)*c", 10, 3, 2, 26);
        measures("a/b*c", 10, 3, 2, 6);
        measures("k+(a-b)*c", 10, 3, 2, 15);
        measures("k-(a-b)/c-(c-a)*b", 10, 3, 2, 22);
        measures("a-(b+(c-a)*(b-k))*c", 10, 3, 2, 36);
        measures("a/b/c", -21, 2, 3, -3);
        measures("a/b", -7, 2, 0, -3);
        measures("a/b", 7, -2, 0, -3);
        measures("k*9999", 0, 0, 0, 9999);
        measures("0", 7, 7, 7, 0);
        measures("a+0*b-0", 5, 3, 1, 5);
        measures("0-a", 5, 3, 1, -5);
        measures("a*1-b", 5, 3, 1, 2);
        measures("a~5", 2, 0, 0, 0);
        measures("a~5", 3, 0, 0, 5);
        measures("a~5", -2, 0, 0, 0);
        measures("a~5", -3, 0, 0, -5);
        measures("a~2", 1, 0, 0, 2);
        measures("a~2", -1, 0, 0, 0);
        measures("a~2", -3, 0, 0, -2);
        measures("a~9999", 9999, 0, 0, 9999);
        measures("a~9999", 4999, 0, 0, 0);
        long power = 9999L * 9999 * 9999 * 9999;
        measures("a*a*a*a", 9999, 0, 0, power);
        measures("a*a*a*a*a", 9999, 0, 0, Math.floorDiv(2 * (power * 9999) + 1, 2));
        measures("a*a*a*a*500", 9999, 0, 0, Math.floorDiv(2 * (power * 500) + 1, 2));
        measures("a*a*a*a*500~7", 9999, 0, 0, Math.floorDiv(2 * (power * 500) + 7, 14) * 7);
    }

    @Says("An entry with / by 0 (of a difference: for the new numbers) is OPEN: that measure is 0.")
    static void open() {
        Script.then(items("x=5+b/a", "703(0,0,1,0)=0 704(0,0,0)=1 705(0,0,0)=0 709(0,0)=0 709(0,1)=0 709(0,2)=0"), "719(0,1,1)=1 705(0,1,0)=6 709(1,0)=-1 719(0,0,2)=1 705(0,2,0)=-6 709(1,0)=0 709(1,2)=0 719(0,0,3)=1 705(0,3,0)=0 709(2,0)=0 709(3,0)=-1 706(0,2,0)=-6");
        // a product with nothing is open all the same, and so is 0 by 0
        Script.then(items("x=0*(1/a);y=a/a", "703(0,0,0,0)=0 704(0,0,0)=1 704(0,1,0)=1"), "709(0,1)=0 709(1,1)=1 709(2,0)=-1");
    }

    @Says({"705: Part 0 the quantity of an item in a month, 1 how many plain entries it has there, 2 how many differences.", "705: BAD: none such."})
    static void quantity() {
        RoadHouse x = items("x=a;y=b", "703(0,5,6,0)=0 704(0,0,3)=1 704(0,0,3)=1 704(0,1,3)=1 719(0,4,3)=3 705(0,3,0)=8 705(0,3,1)=2 705(0,3,2)=2 705(1,3,0)=6 705(1,3,1)=1 705(1,3,2)=1 705(0,2,0)=0 705(0,2,1)=0");
        Script.then(x, "705(-1,0,0)=-1 705(2,0,0)=-1 705(0,-1,0)=-1 705(0,12,0)=-1 705(0,0,-1)=-1 705(0,0,3)=-1 706(-1,0,0)=-1 706(2,0,0)=-1 706(0,-1,0)=-1 706(0,12,0)=-1 706(0,0,-1)=-1 706(0,0,3)=-1 706(0,3,0)=8 706(0,3,1)=2 706(0,3,2)=2 706(1,3,0)=6");
    }

    @Says({"707: BAD: none such.", "Its RATE in a month is its cents times all CHANGES of it told for this month or an earlier one, in the order told, each cut off (towards 0, as all that is cut off here).", "KEPT of it is, if it is above 0, a fraction (0 / 1 at first) of it, cut off."})
    static void pay() {
        RoadHouse x = items("x=a;z=1", "702(0,100)=1 703(0,6,0,0)=0 704(0,0,3)=1 707(3,0)=600 710(0,3,2,3)=1 707(3,0)=900 710(0,9,1,4)=2 707(3,0)=900 710(0,1,7,2)=3 707(3,0)=126 711(3,1,4)=1 707(3,0)=31 707(3,1)=0 712(1,10)=1 707(3,1)=3 715(2,4,5)=1 707(3,2)=5 707(3,3)=0 707(3,4)=23");
        Script.then(x, "707(-1,0)=-1 707(12,0)=-1 707(3,-1)=-1 707(3,5)=-1 702(0,-100)=1 707(3,0)=-31 707(3,1)=0 707(3,4)=-36 707(2,4)=-5 707(5,4)=0 707(4,4)=-5 707(1,4)=0");
    }

    @Says({"708: The k-th pair of plain entries with one shape, by the later one, then by the earlier one", "708: BAD: none such."})
    static void twice() {
        RoadHouse x = items("x=a;y=b;z=c", "703(0,1,1,1)=0 703(0,2,2,2)=1 704(0,0,0)=1 704(1,1,0)=1 708(0,0)=-1 704(0,2,0)=1 704(1,1,5)=1 704(0,0,0)=1");
        Script.then(x, "708(0,0)=0 708(0,1)=0 708(0,2)=2 708(1,0)=1 708(1,1)=1 708(1,2)=1 708(2,0)=0 708(2,1)=0 708(2,2)=0 708(3,0)=0 708(3,1)=2 708(3,2)=0 708(4,0)=-1 708(-1,0)=-1 708(0,-1)=-1 708(0,3)=-1 719(0,5,1)=3 708(4,0)=-1 708(3,1)=2");
    }

    @Says({"709: 2 the shape (BAD for 1).", "709: Only the first 100 are kept.", "709: BAD: none such."})
    static void opens() {
        RoadHouse x = items("x=1/a", "703(0,0,0,0)=0 703(0,0,0,0)=1 709(0,0)=-1 704(1,0,0)=1 702(5,0)=-1 709(0,0)=0 709(0,1)=0 709(0,2)=1 709(1,0)=1 709(1,1)=5 709(1,2)=-1 709(0,3)=-1 709(0,-1)=-1 709(-1,0)=-1 709(2,0)=-1 98*702(#+10,0)=-1 709(99,1)=107");
        Script.then(x, "702(7,0)=-1 704(0,0,0)=1 709(100,0)=-1 709(99,1)=107 709(0,2)=1 705(0,0,1)=2");
    }

    @Says({"710: above / below (0 .. 1,000 by 1 .. 1,000): how many changes there are.", "710: BAD: none such; there are 20."})
    static void change() {
        RoadHouse x = items("x=1", "702(0,60)=1 703(0,0,0,0)=0 704(0,0,11)=1 710(-1,1,1,0)=-1 710(1,1,1,0)=-1 710(0,-1,1,0)=-1 710(0,1001,1,0)=-1 710(0,1,0,0)=-1 710(0,1,1001,0)=-1 710(0,1,-1,0)=-1 710(0,1,1,-1)=-1 710(0,1,1,12)=-1 707(11,0)=60 710(0,1000,1000,0)=1 710(0,1,1000,11)=2 707(11,0)=0");
        Script.then(items("x=1;y=1", "702(0,60)=1 702(1,60)=1 703(0,0,0,0)=0 704(0,0,3)=1 704(0,1,4)=1 710(1,1,2,0)=1"), "707(3,0)=60 707(4,0)=30 710(0,0,1,4)=2 707(3,0)=60 710(0,0,1,3)=3 707(3,0)=0 707(4,0)=30");
        Script.then(x, "18*710(0,1000,1,11)=3+# 710(0,1,1,0)=-1 710(0,0,1,0)=-1 707(11,0)=0 702(0,1000)=1 707(11,0)=" + cut(1000, 18));
    }

    private static long cut(long v, int times) {
        long rate = v / 1000;
        for (int k = 0; k < times; k++) {
            rate = rate * 1000;
        }
        return rate;
    }

    @Says({"711: A month's index, 0 .. 1,000 by 1 .. 1,000.", "711: False: none such.", "times the month's INDEX (1 / 1 at first), cut off"})
    static void index() {
        Script.then(items("x=1", "702(0,7)=1 703(0,0,0,0)=0 704(0,0,11)=1 704(0,0,0)=1 711(-1,1,1)=0 711(12,1,1)=0 711(0,-1,1)=0 711(0,1001,1)=0 711(0,1,0)=0 711(0,1,1001)=0 711(0,1,-1)=0 707(0,0)=7 711(11,1000,1000)=1 711(11,0,1)=1 707(11,0)=0 707(0,0)=7 711(0,1000,1)=1 707(0,0)=7000 711(0,1,1000)=1"), "707(0,0)=0 702(0,-7)=1 711(0,1,2)=1 707(0,0)=-3");
    }

    @Says({"712: What is kept, 0 <= above <= below <= 1,000, below not 0.", "712: False: none such."})
    static void keep() {
        Script.then(items("x=1", "702(0,7)=1 703(0,0,0,0)=0 704(0,0,0)=1 707(0,1)=0 712(-1,1)=0 712(2,1)=0 712(0,0)=0 712(1,1001)=0 712(1001,1001)=0 712(-1,-1)=0 707(0,1)=0 712(0,1)=1 712(1000,1000)=1 707(0,1)=7 707(0,4)=0 712(1,2)=1 707(0,1)=3 712(3,2)=0"), "707(0,1)=3 702(0,-7)=1 707(0,1)=0 707(0,4)=-7 702(0,1)=1 712(1,1)=1 707(0,1)=1 702(0,0)=1 707(0,1)=0");
    }

    @Says({"714: All kept up to a month comes back in it, as much as it will be (also of entries that come later): how much that is now.", "714: BAD: no such month; a month (any) was told already.", "All that was kept up to some month comes BACK in it, once."})
    static void back() {
        RoadHouse x = items("x=1", "702(0,10)=1 703(0,0,0,0)=0 704(0,0,0)=1 704(0,0,5)=1 704(0,0,11)=1 712(1,2)=1 713(-1)=-1 713(12)=-1 713(0)=5 713(4)=5 713(5)=10 713(11)=15 714(-1)=-1 714(12)=-1 714(5)=10 714(5)=-1 714(6)=-1 714(-1)=-1 713(4)=5 713(5)=0 713(10)=0 713(11)=5");
        Script.then(x, "707(5,3)=10 707(4,3)=0 707(6,3)=0 707(5,4)=15 704(0,0,4)=1 707(5,3)=15 713(5)=0 713(4)=10 713(11)=5 716(11)=35 720(3)=15 720(1)=20");
        Script.then(items("x=1", "714(0)=0 714(11)=-1 713(0)=0"), "714(0)=-1");
    }

    @Says({"715: So many cents, 0 .. 1,000,000, for each month from one to another one.", "715: False: none such; the first is behind the last; there are 10."})
    static void penalty() {
        Script.on("715(-1,0,1)=0 715(0,-1,1)=0 715(0,12,1)=0 715(12,12,1)=0 715(5,4,1)=0 715(0,0,-1)=0 715(0,0,1000001)=0 715(3,3,1000000)=1 715(0,11,0)=1 707(3,2)=1000000 707(2,2)=0 707(4,2)=0 707(3,4)=-1000000 715(2,4,1)=1 707(2,2)=1 707(3,2)=1000001 707(4,2)=1 707(5,2)=0 7*715(0,0,1)=1 715(0,0,1)=0 707(0,2)=7 720(2)=1000010");
    }

    @Says("716: BAD: none such.")
    static void advance() {
        Script.on("715(0,11,3)=1 716(-1)=-1 716(12)=-1 716(0)=-3 716(5)=-18 716(11)=-36 716(MIN)=-1");
    }

    @Says({"717: A firm (0 .. 3) has a weight, 0 .. 1,000 (0 at first).", "717: False: none such."})
    static void firm() {
        Script.on("717(-1,1)=0 717(4,1)=0 717(0,-1)=0 717(0,1001)=0 717(0,0)=1 715(0,0,9)=1 718(0,0)=0 717(3,1000)=1 718(3,0)=-9 718(0,0)=0 717(3,1001)=0 718(3,0)=-9");
    }

    @Says({"718: what is left over goes in units to the firms with the greatest remains, of equal ones the lesser firm first; with the net's sign", "718: 0 without weights.", "718: BAD (here - 1): none such."})
    static void share() {
        RoadHouse x = items("x=1", "702(0,10)=1 703(0,0,0,0)=0 704(0,0,0)=1 718(-1,0)=-1 718(4,0)=-1 718(0,-1)=-1 718(0,12)=-1 718(0,0)=0 718(3,0)=0 3*717(#+1,1)=1 718(0,0)=0 718(1,0)=4 718(2,0)=3 718(3,0)=3 702(0,-10)=1 718(1,0)=-4 718(2,0)=-3 718(3,0)=-3 718(0,11)=0");
        Script.then(x, "702(0,11)=1 718(1,0)=4 718(2,0)=4 718(3,0)=3 717(0,2)=1 718(0,0)=5 718(1,0)=2 718(2,0)=2 718(3,0)=2 702(0,8)=1 718(0,0)=3 718(1,0)=2 718(2,0)=2 718(3,0)=1 702(0,1)=1 718(0,0)=1 718(1,0)=0 718(3,0)=0 717(0,3)=1 718(0,0)=1 718(1,0)=0 702(0,-1)=1 718(0,0)=-1 718(1,0)=0 702(0,8)=1 4*717(#,0)=1 718(0,0)=0 717(2,1)=1 718(2,0)=8 718(1,0)=0");
    }

    @Says("718: cut off (exactly, however great the net is)")
    static void greatShare() {
        RoadHouse x = items("x=a*a*a*a*100", "702(0,9)=1 703(0,9999,0,0)=0 704(0,0,0)=1 717(0,1000)=1 717(1,999)=1 717(2,998)=1 717(3,1)=1");
        int[] weight = {1000, 999, 998, 1};
        for (int sign = 1; sign >= -1; sign -= 2) {
            Script.then(x, "702(0," + 9 * sign + ")=1");
            long net = x.act(707, 0, 4, 0, 0, 0);
            BigInteger size = BigInteger.valueOf(net).abs();
            Script.due("the net is great", size.bitLength(), 63);
            BigInteger[] share = new BigInteger[4];
            BigInteger[] rest = new BigInteger[4];
            BigInteger left = size;
            for (int f = 0; f < 4; f++) {
                BigInteger[] both = size.multiply(BigInteger.valueOf(weight[f])).divideAndRemainder(BigInteger.valueOf(2998));
                share[f] = both[0];
                rest[f] = both[1];
                left = left.subtract(both[0]);
            }
            for (int more = left.intValueExact(); more > 0; more--) {
                int best = 0;
                for (int f = 1; f < 4; f++) {
                    best = rest[f].compareTo(rest[best]) > 0 ? f : best;
                }
                share[best] = share[best].add(BigInteger.ONE);
                rest[best] = BigInteger.valueOf(-1);
            }
            for (int f = 0; f < 4; f++) {
                Script.due("share of firm " + f, x.act(718, f, 0, 0, 0, 0), sign * share[f].longValueExact());
            }
        }
    }

    @Says({"719: (of 0, too, when a was that; without plain entries a is changed alone): how many", "719: BAD: none such; not so many more entries are possible.", "DIFFERENCES: what a corrected shape measures less what it measured before (an open one counting 0)"})
    static void correct() {
        RoadHouse x = items("x=a;y=b", "703(0,5,6,0)=0 719(-1,0,0)=-1 719(1,0,0)=-1 719(0,10000,0)=-1 719(0,-10000,0)=-1 719(0,0,-1)=-1 719(0,0,12)=-1 719(0,9,0)=0 705(0,0,2)=0 704(0,0,1)=1 705(0,1,0)=9 719(0,9,2)=1 705(0,2,0)=0 705(0,2,2)=1 719(0,-9999,11)=1 705(0,11,0)=-10008 719(0,9999,0)=1 705(0,0,0)=19998");
        Script.then(x, "704(0,1,1)=1 719(0,1,3)=2 705(1,3,2)=1 705(1,3,0)=0 705(0,3,0)=-9998");
        // what can not be corrected keeps its a
        Script.then(items("x=a", "703(0,1,0,0)=0 703(0,2,0,0)=1 57*704(0,0,0)=1 2*704(1,0,0)=1 719(1,7,5)=-1 719(0,7,5)=-1 704(1,0,6)=1 705(0,6,0)=2"), "719(1,7,5)=-1 719(1,7,12)=-1 705(0,0,0)=61");
        // 59 entries: one more shape with two plain ones can not be corrected, one with one can
        Script.then(items("x=a", "703(0,1,0,0)=0 703(0,2,0,0)=1 703(0,3,0,0)=2 2*704(1,0,0)=1 704(2,0,0)=1 56*704(0,0,0)=1 719(1,7,5)=-1 719(0,7,5)=-1 705(0,5,2)=0 706(0,0,0)=63 719(2,7,5)=1 705(0,5,0)=4 719(2,8,5)=-1 704(1,0,0)=0"), "703(0,4,0,0)=3 719(3,5,0)=0 705(0,0,0)=63");
    }

    @Says("720: BAD: none such.")
    static void all() {
        Script.then(items("x=1", "702(0,10)=1 703(0,0,0,0)=0 704(0,0,0)=1 704(0,0,11)=1 712(1,2)=1 715(0,11,1)=1 714(3)=5 720(-1)=-1 720(5)=-1 720(0)=20 720(1)=10 720(2)=12 720(3)=5 720(4)=3"), "716(11)=3");
    }

    @Says("721: BAD: none such.")
    static void dispute() {
        RoadHouse x = items("x=a;y=b", "703(0,1,0,0)=0 703(0,2,0,0)=1 703(0,3,0,0)=2 704(0,0,0)=1 704(1,0,0)=1 704(2,0,0)=1 721(0,0)=-1 704(2,1,0)=1 704(0,1,9)=1 721(0,0)=0 721(0,1)=2 721(0,2)=-1 721(1,0)=2 721(1,1)=0 721(1,2)=-1 721(0,-1)=-1 721(-1,0)=-1 721(2,0)=-1 719(1,5,0)=1 721(0,1)=2");
        Script.then(x, "704(0,0,0)=1 721(0,2)=0 721(0,3)=-1");
    }

    @Says("722: throws ArrayIndexOutOfBoundsException")
    static void plainEntries() {
        Script.then(items("x=a;y=b", "722(-1)!index 722(2)!index 722(MIN)!index 722(MAX)!index 722(0)=0 703(0,1,0,0)=0 704(0,0,0)=1 704(0,0,7)=1 719(0,5,5)=2 722(0)=2"), "722(1)=0");
    }

    @Says({"723: for each item its name, :, its quantity of all months together, =, that of all months times rates without indexes, and ; (numbers below 0 with - before them)", "723: BAD: none such."})
    static void write() {
        RoadHouse x = items("x=a;abcdefgh=b*b*b*b*100", "703(0,6,-9999,0)=0");
        billIs(x, "x:0=0;abcdefgh:0=0;");
        Script.then(x, "702(0,-100)=1 702(1,-9)=1 704(0,0,0)=1 704(0,0,11)=1 704(0,1,5)=1 711(0,1,2)=1 710(0,3,2,11)=1");
        billIs(x, "x:12=-1500;abcdefgh:" + 9999L * 9999 * 9999 * 9999 * 100 + "=" + 9999L * 9999 * 9999 * 9999 * 100 * -9 + ";");
        RoadHouse y = items("x=a", "702(0,1)=1 703(0,10,0,0)=0 704(0,0,0)=1");
        billIs(y, "x:10=10;");
        Script.then(y, "719(0,99,0)=1 702(0,-1)=1");
        billIs(y, "x:99=-99;");
        Script.then(y, "719(0,-100,0)=1 702(0,10)=1");
        billIs(y, "x:-100=-1000;");
        Script.then(x, "719(0,-10,0)=3 702(0,1)=1");
        billIs(x, "x:-20=-20;abcdefgh:" + 9999L * 9999 * 9999 * 9999 * 100 + "=" + 9999L * 9999 * 9999 * 9999 * 100 * -9 + ";");
    }

    @Says({"713: What was kept up to a month, less what came back up to it.", "713: BAD: none such."})
    static void stillKept() {
        Script.then(items("x=1", "713(0)=0 713(-1)=-1 713(12)=-1 713(MIN)=-1 702(0,8)=1 703(0,0,0,0)=0 704(0,0,1)=1 704(0,0,2)=1 704(0,0,11)=1 712(1,4)=1 713(0)=0 713(1)=2 713(2)=4 713(10)=4 713(11)=6 714(2)=4 713(0)=0 713(1)=2 713(2)=0"), "713(10)=0 713(11)=2 713(12)=-1 712(1,2)=1 713(1)=4 713(2)=0 713(11)=4");
    }

    public static void main(String[] args) {
        Script.run(ContractSentencesTest.class);
    }
}
