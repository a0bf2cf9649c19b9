import java.lang.reflect.InvocationTargetException;
import java.lang.reflect.Method;
import java.util.Arrays;
import java.util.Comparator;

/**
 * Rows of calls, written as texts: 100(1,0,0,5)=0 is a call of act() and its answer, earth(0,3)=BAD one of the desk,
 * 108(3)!state what it throws, 200'F1x1.' a text whose signs are collected. 8*100(1,0,0,#)=#+3 does a call eight times;
 * # counts them from 0 on. Behind a call without = or ! any answer will do.
 */
final class Script {
    private static int seen;
    private static int wrong;
    private static String test = "";

    private Script() {
    }

    /** Does rows on a new object. */
    static RoadHouse on(String rows) {
        return then(new RoadHouse(), rows);
    }

    static RoadHouse then(RoadHouse house, String rows) {
        int at = 0;
        while (at < rows.length()) {
            char c = rows.charAt(at);
            if (c == ' ' || c == '\n') {
                at++;
                continue;
            }
            int quote = rows.indexOf('\'', at);
            int bracket = rows.indexOf('(', at);
            if (quote >= 0 && (bracket < 0 || quote < bracket)) {
                int end = rows.indexOf('\'', quote + 1);
                collect(house, Integer.parseInt(rows.substring(at, quote)), rows.substring(quote + 1, end));
                at = end + 1;
                continue;
            }
            int end = at;
            while (end < rows.length() && rows.charAt(end) != ' ') {
                end++;
            }
            row(house, rows.substring(at, end));
            at = end;
        }
        return house;
    }

    private static void collect(RoadHouse house, int call, String text) {
        for (char c : text.toCharArray()) {
            due("sign " + c + " of " + text, house.act(call, c, 0, 0, 0, 0), 1);
        }
    }

    private static void row(RoadHouse house, String row) {
        int open = row.indexOf('(');
        int close = row.indexOf(')');
        String name = row.substring(0, open);
        int times = 1;
        if (name.indexOf('*') >= 0) {
            times = Integer.parseInt(name.substring(0, name.indexOf('*')));
            name = name.substring(name.indexOf('*') + 1);
        }
        String[] words = close == open + 1 ? new String[0] : row.substring(open + 1, close).split(",");
        String due = row.substring(close + 1);
        for (int k = 0; k < times; k++) {
            int[] a = new int[5];
            for (int i = 0; i < words.length; i++) {
                a[i] = (int) number(words[i], k);
            }
            answer(house, row, name, a, due, k);
        }
    }

    private static void answer(RoadHouse house, String row, String name, int[] a, String due, int k) {
        long got = 0;
        String threw = "";
        try {
            got = call(house, name, a);
        } catch (ArrayIndexOutOfBoundsException e) {
            threw = "index";
        } catch (NegativeArraySizeException e) {
            threw = "size";
        } catch (IllegalStateException e) {
            threw = "state";
        } catch (IllegalArgumentException e) {
            threw = "argument";
        }
        String what = row + " (" + k + ")";
        if (due.startsWith("!") || !threw.isEmpty()) {
            due(what + " throws " + (threw.isEmpty() ? "nothing" : threw), due.equals("!" + threw) ? 1 : 0, 1);
        } else if (!due.isEmpty()) {
            due(what, got, number(due.substring(1), k));
        }
    }

    private static long call(RoadHouse house, String name, int[] a) {
        switch (name) {
            case "earth": return house.earth(a[0], a[1]);
            case "bridge": return house.bridge(a[0], a[1]);
            case "rowOf": return house.rowOf(a[0]);
            case "pass": return house.pass(a[0]);
            case "drive": return house.drive(a[0]);
            case "bill": return house.bill(a[0]);
            case "whole": return house.whole(a[0]);
            default: return house.act(Integer.parseInt(name), a[0], a[1], a[2], a[3], a[4]);
        }
    }

    /** A number: BAD, NONE, MIN, MAX, digits, # (how many times were done), or some of these joined by + or by *. */
    private static long number(String word, int k) {
        int plus = word.lastIndexOf('+');
        if (plus > 0) {
            return number(word.substring(0, plus), k) + number(word.substring(plus + 1), k);
        }
        int star = word.lastIndexOf('*');
        if (star > 0) {
            return number(word.substring(0, star), k) * number(word.substring(star + 1), k);
        }
        switch (word) {
            case "#": return k;
            case "BAD": return RoadHouse.BAD;
            case "NONE": return RoadHouse.NONE;
            case "MIN": return Integer.MIN_VALUE;
            case "MAX": return Integer.MAX_VALUE;
            default: return Long.parseLong(word);
        }
    }

    static void due(String what, long got, long want) {
        seen++;
        if (got != want && ++wrong <= 60) {
            System.out.println(test + ": " + what + " answered " + got + ", due is " + want);
        }
    }

    static void due(String what, double got, double want) {
        seen++;
        if (got != want && ++wrong <= 60) {
            System.out.println(test + ": " + what + " answered " + got + ", due is " + want);
        }
    }

    /** Runs all tests of a class that tell which words they hold to; how many answers were not as due. */
    static int wrongOf(Class<?> tests) {
        seen = 0;
        wrong = 0;
        int count = 0;
        Method[] methods = tests.getDeclaredMethods();
        Arrays.sort(methods, Comparator.comparing(Method::getName));
        for (Method m : methods) {
            if (!m.isAnnotationPresent(Says.class)) {
                continue;
            }
            count++;
            test = tests.getName() + "." + m.getName();
            int before = wrong;
            try {
                m.setAccessible(true);
                m.invoke(null);
            } catch (InvocationTargetException e) {
                due("threw " + e.getCause(), 1, 0);
            } catch (IllegalAccessException e) {
                due("was not run: " + e, 1, 0);
            }
            if (wrong > before) {
                System.out.println("  the document: " + String.join(" / ", m.getAnnotation(Says.class).value()));
            }
        }
        System.out.println(tests.getName() + ": " + count + " tests, " + seen + " answers, " + wrong + " not as due");
        return count == 0 ? 1 : wrong;
    }

    static void run(Class<?> tests) {
        if (wrongOf(tests) != 0) {
            System.exit(1);
        }
    }
}
