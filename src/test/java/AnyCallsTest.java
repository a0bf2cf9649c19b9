import java.util.Random;

/** Any calls, in any order, with likely and unlikely numbers: nothing is thrown but what the document names. */
public final class AnyCallsTest {
    private static final int[] CALLS = {18, 18, 15, 23, 20, 20, 25, 24};
    private static final int[] ODD = {0, 1, -1, 2, 3, 4, 5, 7, 8, 9, 11, 12, 13, 100, 1000, 10000, 1000000, -1000000,
        Integer.MAX_VALUE, Integer.MIN_VALUE, Integer.MIN_VALUE + 1, 50, 144, 200, 999};
    private static final String[] TEXTS = {"S1x2S3x4hF", "FhS", ".5x5F12x12hS3x1T", "100W;50P+25L-3W", "A1-5;B2-9", "AB1-31;C3-9;A4-4",
        "A1-1", "a=a*b/c+k~5;b=(a+1)*(b-c);c=12/a", "x=1", "10000W", "aa=((((((((((a))))))))))", "S12x7S11x5S7x12S"};

    private static boolean mayThrow(int call, RuntimeException e) {
        Class<?> kind = e.getClass();
        if (call == 108) {
            return kind == IllegalStateException.class;
        }
        if (call == 500) {
            return kind == NegativeArraySizeException.class || kind == IllegalArgumentException.class;
        }
        boolean index = call == 202 || call == 203 || call == 204 || call == 501 || call == 502 || call == 503 || call == 722;
        return index && kind == ArrayIndexOutOfBoundsException.class;
    }

    private static int number(Random r) {
        switch (r.nextInt(8)) {
            case 0: return ODD[r.nextInt(ODD.length)];
            case 1: return r.nextInt(1000);
            case 2: return r.nextInt(25) - 3;
            case 3: return r.nextInt(60);
            default: return r.nextInt(5);
        }
    }

    public static void main(String[] args) {
        Check c = new Check("AnyCallsTest");
        int runs = args.length > 0 ? Integer.parseInt(args[0]) : 1500;
        for (int run = 0; run < runs; run++) {
            Random r = new Random(run);
            RoadHouse x = new RoadHouse();
            int only = r.nextInt(12);
            for (int k = 0; k < 512; k++) {
                int part = only < 8 ? only : r.nextInt(8);
                int call = 100 * part + r.nextInt(CALLS[part]);
                int a = number(r);
                int b = number(r);
                int d = number(r);
                int f = number(r);
                int g = r.nextBoolean() ? number(r) : 100000;
                try {
                    switch (r.nextInt(40)) {
                        case 0: x.earth(r.nextInt(5), r.nextInt(13)); break;
                        case 1: x.bridge(r.nextInt(3), number(r)); break;
                        case 2: x.rowOf(number(r)); break;
                        case 3: x.pass(number(r)); break;
                        case 4: x.drive(number(r)); break;
                        case 5: x.bill(number(r)); break;
                        case 6: x.whole(r.nextInt(10)); break;
                        case 7: x.crack(r.nextInt(20) * 0.5, r.nextDouble() * 1000, number(r)); x.crackAt(number(r)); break;
                        case 8: x.logJoin(number(r), r.nextDouble() * 1000); break;
                        case 9: case 10: case 11: {
                            int[] unit = {200, 312, 504, 700};
                            int which = only < 8 && (only == 2 || only == 3 || only == 5 || only == 7) ? only == 2 ? 0 : only == 3 ? 1 : only == 5 ? 2 : 3 : r.nextInt(4);
                            String text = TEXTS[r.nextInt(TEXTS.length)];
                            for (char sign : text.toCharArray()) {
                                x.act(unit[which], r.nextInt(60) == 0 ? 32 + r.nextInt(95) : sign, 0, 0, 0, 0);
                            }
                            x.act(unit[which] + (which == 0 ? 1 : which == 1 ? 1 : which == 2 ? 1 : 1), 0, 0, 0, 0, 0);
                            break;
                        }
                        default: x.act(call, a, b, d, f, g);
                    }
                } catch (RuntimeException e) {
                    if (!mayThrow(call, e)) {
                        c.due("run " + run + " call " + call + "(" + a + ", " + b + ", " + d + ", " + f + ", " + g + ") threw " + e, 1, 0);
                        e.printStackTrace(System.out);
                        c.end();
                    }
                }
            }
            c.due("kept", x.whole(7), 1);
            c.due("walks", x.whole(8), 1);
            c.due("stress", x.whole(5), 1);
        }
        c.end();
    }
}
