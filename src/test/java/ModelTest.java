import java.lang.reflect.Method;
import java.util.Arrays;
import java.util.Comparator;
import java.util.Random;

/** Long runs of calls by lot (always the same ones) on the class and on the model: they answer alike. */
public final class ModelTest {
    private static final Check c = new Check();
    private static final int RUNS = 500;
    /** What comes later than the 512th call of an object is free. */
    private static final int CALLS = 512;
    private static final int MOST_OF_A_ROUND = 64;
    private static final int[] WILD = {Integer.MIN_VALUE, Integer.MAX_VALUE, Integer.MIN_VALUE + 1, Integer.MAX_VALUE - 1, -1, 999, 1000, -1000001};
    private static final String[] SCRAPS = {
        "stall", "double", "idle", "shaded", "lazy", "blind", "cheese", "at", "goods", "visits", "to", "are", "shade",
        "sun", "spring", ";", ";", ";", "0", "3", "5", "7", "11", "12", "20", "21", "99", "100", "1000", "x", "#", "  "};

    private static MovingMarket market;
    private static Model model;
    private static int run;
    private static int calls;

    public static void main(String[] args) throws ReflectiveOperationException {
        Method[] acts = Arrays.stream(MovingMarket.class.getDeclaredMethods())
            .filter(m -> java.lang.reflect.Modifier.isPublic(m.getModifiers()))
            .sorted(Comparator.comparing(Method::getName)).toArray(Method[]::new);
        for (run = 0; run < RUNS; run++) {
            Random lot = new Random(run);
            market = new MovingMarket();
            model = new Model();
            calls = 0;
            begin(lot);
            // A round makes several calls at times.
            while (calls < CALLS - MOST_OF_A_ROUND) {
                Method act = acts[lot.nextInt(acts.length)];
                if (act.getName().equals("text") && lot.nextInt(4) > 0) {
                    text(lot);
                } else if (act.getName().equals("write") && lot.nextInt(4) > 0) {
                    rightSheet(lot, acts);
                } else if (!isDear(act.getName()) || lot.nextInt(8) == 0) {
                    call(act, arguments(act, lot));
                }
            }
            c.holds("run " + run + " has at most 512 calls", calls <= CALLS);
        }
        c.end();
    }

    private static boolean isDear(String act) {
        return act.equals("most") || act.equals("order") || act.equals("never") || act.equals("fit") || act.equals("hours") || act.equals("tear");
    }

    private static void call(Method act, int[] a) throws ReflectiveOperationException {
        Object[] given = new Object[a.length];
        for (int i = 0; i < a.length; i++) {
            given[i] = act.getParameterTypes()[i] == boolean.class ? (Object) (a[i] != 0) : (Object) a[i];
        }
        calls++;
        int got = (int) act.invoke(market, given);
        c.due("run " + run + ": " + act.getName() + Arrays.toString(a), got, model.call(act.getName(), a));
    }

    private static void call(String name, int... a) throws ReflectiveOperationException {
        for (Method act : MovingMarket.class.getDeclaredMethods()) {
            if (act.getName().equals(name)) {
                call(act, a);
            }
        }
    }

    /** Some stalls, and places that differ. */
    private static void begin(Random lot) throws ReflectiveOperationException {
        for (int place = 0; place < 12; place++) {
            call("visits", place, lot.nextInt(3) == 0 ? lot.nextInt(21) : lot.nextInt(4));
            call("shade", place, lot.nextInt(2));
        }
        call("spring", lot.nextInt(12));
        int stalls = lot.nextInt(3) == 0 ? lot.nextInt(9) : 3 + lot.nextInt(3);
        for (int stall = 0; stall < stalls; stall++) {
            call("stall", lot.nextInt(7), lot.nextInt(12));
            call("change", stall, 2, lot.nextInt(100));
        }
    }

    private static int[] arguments(Method act, Random lot) {
        int[] a = new int[act.getParameterCount()];
        for (int i = 0; i < a.length; i++) {
            int way = lot.nextInt(100);
            if (way < 2) {
                a[i] = WILD[lot.nextInt(WILD.length)];
            } else if (way < 4) {
                a[i] = lot.nextInt();
            } else if (way < 12) {
                a[i] = lot.nextInt(105) - 3;
            } else if (way < 55) {
                a[i] = lot.nextInt(14) - 1;
            } else {
                a[i] = lot.nextInt(5);
            }
        }
        String name = act.getName();
        if (name.equals("sheet") && lot.nextInt(8) > 0) {
            a[1] = 8 * (1 << lot.nextInt(3));
        }
        if (name.equals("change") && lot.nextBoolean()) {
            a[1] = 2 * lot.nextInt(2);
        }
        if ((name.equals("hours") || name.equals("ahead")) && lot.nextInt(4) == 0) {
            a[0] = lot.nextInt(60);
        }
        return a;
    }

    private static void text(Random lot) throws ReflectiveOperationException {
        StringBuilder text = new StringBuilder();
        int items = 1 + lot.nextInt(4);
        for (int k = 0; k < items; k++) {
            text.append(k == 0 ? "" : " ; ").append(item(lot));
        }
        if (lot.nextInt(3) == 0) {
            int at = lot.nextInt(text.length() + 1);
            text.insert(at, " " + SCRAPS[lot.nextInt(SCRAPS.length)] + " ");
        }
        if (lot.nextInt(5) == 0) {
            text.setLength(lot.nextInt(text.length() + 1));
        }
        if (lot.nextInt(3) == 0) {
            text = new StringBuilder(text.toString().replace(" ", ""));
        }
        call("wipe");
        int at = 0;
        while (at < text.length()) {
            int n = Math.min(text.length() - at, 2 + lot.nextInt(3));
            int bytes = lot.nextInt();
            for (int i = 0; i < n; i++) {
                bytes = bytes << 8 | text.charAt(at + i);
            }
            call("feed", bytes, n);
            at += n;
        }
        call("text");
    }

    private static String item(Random lot) {
        int place = lot.nextInt(12);
        switch (lot.nextInt(5)) {
            case 0: return SCRAPS[lot.nextInt(7)] + " at " + place;
            case 1: return SCRAPS[lot.nextInt(7)] + " at " + place + " goods " + lot.nextInt(101);
            case 2: return "visits " + place + " are " + lot.nextInt(21);
            case 3: return "visits " + place + " to " + lot.nextInt(13) + " are " + lot.nextInt(22);
            default: return SCRAPS[12 + lot.nextInt(3)] + " " + place;
        }
    }

    /** A sheet that tells what will be, for judge() and fit(), or one that wants to. */
    private static void rightSheet(Random lot, Method[] acts) throws ReflectiveOperationException {
        int s = lot.nextInt(4);
        int n = lot.nextInt(25);
        if (lot.nextBoolean()) {
            int length = lot.nextInt(4) == 0 ? 10 + lot.nextInt(5) : 12;
            call("sheet", s, 8, length);
            for (int i = 0; i < length; i++) {
                int stall = i < 12 ? market.there(i, n) : -1;
                if (i < 12) {
                    calls++;
                    model.call("there", i, n);
                }
                call("write", s, i, stall < -1 ? -1 : stall);
            }
            if (lot.nextInt(3) == 0) {
                call("write", s, lot.nextInt(length), lot.nextInt(4));
            }
            call("judge", s, n);
        } else {
            int words = lot.nextInt(4);
            call("sheet", s, 16, words * 3);
            for (int k = 0; k < words; k++) {
                int stall = lot.nextInt(4);
                call("write", s, 3 * k, stall);
                call("write", s, 3 * k + 1, lot.nextInt(12));
                call("write", s, 3 * k + 2, lot.nextInt(words == 1 ? 26 : 4));
            }
            call("fit", s);
        }
    }
}
