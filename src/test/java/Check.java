/** What all tests use: it counts answers that are not due, and tells them. */
final class Check {
    private final String name;
    private int wrong;
    private int seen;

    Check(String name) {
        this.name = name;
    }

    void due(String what, long got, long want) {
        seen++;
        if (got != want && ++wrong <= 40) {
            System.out.println(name + ": " + what + " answered " + got + ", due is " + want);
        }
    }

    void due(String what, double got, double want) {
        seen++;
        if (got != want && ++wrong <= 40) {
            System.out.println(name + ": " + what + " answered " + got + ", due is " + want);
        }
    }

    /** Row by row: a call's number, its arguments, and last what it is to answer. */
    void rows(RoadHouse house, long[][] rows) {
        for (long[] row : rows) {
            int[] a = new int[6];
            StringBuilder told = new StringBuilder();
            for (int k = 0; k + 1 < row.length; k++) {
                a[k] = (int) row[k];
                told.append(k == 0 ? "" : k == 1 ? "(" : ", ").append(row[k]);
            }
            told.append(row.length > 2 ? ")" : "()");
            due(told.toString(), house.act(a[0], a[1], a[2], a[3], a[4], a[5]), row[row.length - 1]);
        }
    }

    /** Whether a call throws just that class. */
    void dueThrow(RoadHouse house, Class<? extends RuntimeException> kind, int... call) {
        int[] a = java.util.Arrays.copyOf(call, 6);
        seen++;
        Class<?> got = null;
        try {
            house.act(a[0], a[1], a[2], a[3], a[4], a[5]);
        } catch (RuntimeException e) {
            got = e.getClass();
        }
        if (got != kind && ++wrong <= 40) {
            System.out.println(name + ": " + java.util.Arrays.toString(call) + " threw " + got + ", due is " + kind);
        }
    }

    /** Collects a text by a call that takes its signs. */
    void collect(RoadHouse house, int call, String text) {
        for (char c : text.toCharArray()) {
            due("sign " + c + " of " + text, house.act(call, c, 0, 0, 0, 0), 1);
        }
    }

    void end() {
        System.out.println(name + ": " + seen + " answers, " + wrong + " not as due");
        if (wrong != 0) {
            System.exit(1);
        }
    }
}
