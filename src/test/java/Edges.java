import java.lang.reflect.Method;
import java.lang.reflect.Modifier;
import java.util.ArrayList;
import java.util.Arrays;
import java.util.IdentityHashMap;
import java.util.List;
import java.util.Map;
import java.util.TreeMap;
import java.util.function.Supplier;

/**
 * What the groups of edges share. A group's tests are its methods that are named by a promise and by its sentence:
 * p05FullIsTheNinth; p00 is of the terms.
 */
abstract class Edges {
    static final int BEYOND = -1000001;
    static final int FULL = -1000002;
    static final int KIND = -1000003;
    static final int NONE = -1000004;
    static final int STATE = -1000005;
    static final int MISSING = -1000006;
    static final int SIZE = -1000007;
    static final int MIN = Integer.MIN_VALUE;
    static final int MAX = Integer.MAX_VALUE;
    static final String TEST_NAME = "p\\d\\d[A-Z]\\w*";

    /** What comes later than the 512th call of an object is free. */
    private static final int MOST_CALLS = 512;

    private static final Map<String, Method> ACTS = new TreeMap<>();
    private static final Map<MovingMarket, Integer> CALLS = new IdentityHashMap<>();
    private static String test = "";
    private static int asked;
    private static int wrong;

    static {
        for (Method act : MovingMarket.class.getDeclaredMethods()) {
            if (Modifier.isPublic(act.getModifiers())) {
                ACTS.put(act.getName(), act);
            }
        }
    }

    /** Runs every test of a group by its name, each on objects of its own; exit code 1 if one fails. */
    static void run(Class<?> group) throws ReflectiveOperationException {
        Method[] tests = group.getDeclaredMethods();
        Arrays.sort(tests, (one, other) -> one.getName().compareTo(other.getName()));
        int ran = 0;
        for (Method each : tests) {
            if (each.getName().matches(TEST_NAME)) {
                ran++;
                test = each.getName();
                int before = asked;
                each.invoke(null);
                holds("it asks something", asked > before);
                CALLS.clear();
            }
        }
        System.out.println(ran + " tests, " + asked + " asked, " + wrong + " wrong");
        if (wrong != 0 || ran == 0) {
            System.exit(1);
        }
    }

    static void holds(String what, boolean is) {
        asked++;
        if (!is) {
            wrong++;
            System.out.println(test + ": not so: " + what);
        }
    }

    /** One call on an object; an argument of a boolean is 1 or 0. */
    static int call(MovingMarket x, String name, int... given) {
        holds("at most 512 calls on one object", CALLS.merge(x, 1, Integer::sum) <= MOST_CALLS);
        Method act = ACTS.get(name);
        Object[] arguments = new Object[given.length];
        for (int i = 0; i < given.length; i++) {
            boolean truth = act.getParameterTypes()[i] == boolean.class;
            arguments[i] = truth ? (Object) (given[i] != 0) : (Object) given[i];
        }
        try {
            return (int) act.invoke(x, arguments);
        } catch (ReflectiveOperationException thrown) {
            throw new IllegalStateException(test + ": " + told(name, given), thrown);
        }
    }

    static void due(int want, MovingMarket x, String name, int... given) {
        int got = call(x, name, given);
        asked++;
        if (got != want) {
            wrong++;
            System.out.println(test + ": " + told(name, given) + " answered " + got + ", due is " + want);
        }
    }

    /**
     * A call on a new object answers a finding: that one is counted, and nothing else changes. The object is compared
     * with one that was made alike, on which the call wasn't made.
     */
    static void refused(int finding, Supplier<MovingMarket> made, String name, int... given) {
        MovingMarket x = made.get();
        MovingMarket like = made.get();
        int[] before = findings(x);
        findings(like);
        due(finding, x, name, given);
        int[] after = findings(x);
        findings(like);
        for (int which = -1; which < 7; which++) {
            int more = which == -1 || which == BEYOND - finding ? 1 : 0;
            holds(told(name, given) + " counts in status(" + which + ")", after[which + 1] == before[which + 1] + more);
        }
        List<Integer> left = everything(x);
        List<Integer> whole = everything(like);
        holds(told(name, given) + " changes nothing: " + left + ", due is " + whole, left.equals(whole));
    }

    private static int[] findings(MovingMarket x) {
        int[] all = new int[8];
        for (int which = -1; which < 7; which++) {
            all[which + 1] = call(x, "status", which);
        }
        return all;
    }

    /** All that can be asked of an object; it is changed by that. */
    private static List<Integer> everything(MovingMarket x) {
        List<Integer> all = new ArrayList<>();
        square(x, all);
        for (int s = 0; s < 4; s++) {
            for (int t = s + 1; t < 4; t++) {
                all.add(call(x, "copy", s, 0, t, 0, 0));
            }
        }
        for (int s = 0; s < 4; s++) {
            all.add(call(x, "load", s));
            for (int place = 0; place < 12; place++) {
                all.add(call(x, "placeOf", place, 0));
            }
            for (int i : new int[] {2, 3, 4, 5, 11, 12}) {
                all.add(call(x, "write", s, i, 1));
            }
        }
        all.add(call(x, "feed", ' ' << 8 | '7', 2));
        all.add(call(x, "text"));
        all.add(call(x, "placeOf", 3, 1));
        all.add(call(x, "undo"));
        square(x, all);
        all.add(call(x, "tear"));
        return all;
    }

    private static void square(MovingMarket x, List<Integer> all) {
        for (int what = 0; what < 8; what++) {
            all.add(call(x, "count", what));
        }
        for (int place = 0; place < 12; place++) {
            for (int what = 0; what < 3; what++) {
                all.add(call(x, "placeOf", place, what));
            }
        }
        for (int stall = 0; stall < 8; stall++) {
            for (int what = 0; what < 5; what++) {
                all.add(call(x, "of", stall, what));
            }
        }
        for (int spot = 0; spot < 10; spot++) {
            all.add(call(x, "as", spot, 0));
        }
        all.add(call(x, "spring", 0));
    }

    private static String told(String name, int[] given) {
        String row = Arrays.toString(given);
        return name + "(" + row.substring(1, row.length() - 1) + ")";
    }

    // ---- markets

    /** One in which all is set, with so many stalls (that have just come) at an hour. */
    static MovingMarket market(int stalls, int hour) {
        int[] kinds = {0, 1, 2, 3, 4, 5, 6, 0};
        int[] places = {0, 1, 3, 4, 6, 8, 9, 11};
        MovingMarket x = at(hour);
        for (int place = 0; place < 12; place++) {
            call(x, "visits", place, (7 * place + 2) % 21);
        }
        for (int place = 0; place < 12; place += 3) {
            call(x, "shade", place, 1);
        }
        call(x, "spring", 9);
        for (int stall = 0; stall < stalls; stall++) {
            call(x, "stall", kinds[stall], places[stall]);
            call(x, "change", stall, 2, 30 + 7 * stall);
        }
        call(x, "hold", 2, stalls - 1);
        call(x, "hold", 5, stalls > 0 ? 0 : -1);
        call(x, "seed", 12345);
        call(x, "image");
        call(x, "visits", 0, 20);
        call(x, "seed", -4711);
        call(x, "hold", 7, stalls > 1 ? 1 : -1);
        fill(x, 0, 8, 5, 6, 7, 8, 9, 10, 11, 12, 13, 14, 15, 16);
        fill(x, 1, 16, 0, 1, 2, 3);
        fill(x, 2, 8, 1, 0, 2);
        feed(x, "sun 3;spring");
        return x;
    }

    static Supplier<MovingMarket> of(int stalls) {
        return of(stalls, 0);
    }

    static Supplier<MovingMarket> of(int stalls, int hour) {
        return () -> market(stalls, hour);
    }

    /** A new one in which so many hours have gone. */
    static MovingMarket at(int hour) {
        MovingMarket x = new MovingMarket();
        for (int left = hour; left > 0; left -= 48) {
            call(x, "hours", Math.min(left, 48));
        }
        return x;
    }

    /** One at an hour with these visits everywhere and stalls of kind 0 at these places. */
    static MovingMarket row(int hour, int visits, int... places) {
        MovingMarket x = at(hour);
        for (int place = 0; place < 12; place++) {
            call(x, "visits", place, visits);
        }
        for (int place : places) {
            call(x, "stall", 0, place);
        }
        return x;
    }

    /** A sheet of so many bits with these numbers. */
    static void fill(MovingMarket x, int s, int bits, int... numbers) {
        call(x, "sheet", s, bits, numbers.length);
        for (int i = 0; i < numbers.length; i++) {
            call(x, "write", s, i, numbers[i]);
        }
    }

    /** Puts a text on the tape, four bytes a call. */
    static void feed(MovingMarket x, String text) {
        for (int from = 0; from < text.length(); from += 4) {
            int n = Math.min(4, text.length() - from);
            int bytes = 0;
            for (int i = 0; i < n; i++) {
                bytes = bytes << 8 | text.charAt(from + i);
            }
            call(x, "feed", bytes, n);
        }
    }
}
