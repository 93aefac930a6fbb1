import java.lang.reflect.Constructor;
import java.lang.reflect.Field;
import java.lang.reflect.Method;
import java.lang.reflect.Modifier;
import java.util.Set;
import java.util.TreeSet;

/** The public face, and rule 1 of the language. */
public final class FaceTest {
    private static final Check c = new Check();

    private static final String[] FACE = {
        "visits int int", "shade int boolean", "spring int", "stall int int", "of int int", "change int int int",
        "swap int int", "offers int int", "placeOf int int", "hours int", "stay", "ahead int int", "when int int",
        "empty int", "again", "there int int", "passes int", "most int", "order int int", "dawn int int int",
        "throwAway int int", "wishes int int", "deal int", "beside int", "ever int int", "meet int int",
        "never int int int", "worth int int int", "best int int", "thief int int", "lots int", "seed int",
        "feed int int", "wipe", "text", "hold int int", "as int int", "sheet int int int", "write int int int",
        "copy int int int int int", "load int", "fit int", "judge int int", "image", "undo", "tear", "count int",
        "status int"};

    public static void main(String[] args) {
        Class<?> market = MovingMarket.class;
        c.holds("the class is public and final", market.getModifiers() == (Modifier.PUBLIC | Modifier.FINAL));
        c.holds("it is under nothing", market.getSuperclass() == Object.class && market.getInterfaces().length == 0);
        constructors(market);
        methods(market);
        for (Field field : market.getDeclaredFields()) {
            c.holds(field + " is private", Modifier.isPrivate(field.getModifiers()));
        }
        for (Class<?> inside : market.getDeclaredClasses()) {
            int bits = inside.getModifiers();
            c.holds(inside + " is static and not public", Modifier.isStatic(bits) && !Modifier.isPublic(bits) && !Modifier.isProtected(bits));
            noPublicNames(inside);
            fewFields(inside);
        }
        fewFields(market);
        c.end();
    }

    private static void constructors(Class<?> market) {
        Constructor<?>[] all = market.getDeclaredConstructors();
        c.due("constructors", all.length, 1);
        c.holds("it is public and takes nothing", Modifier.isPublic(all[0].getModifiers()) && all[0].getParameterCount() == 0);
    }

    private static void methods(Class<?> market) {
        Set<String> due = new TreeSet<>(Set.of(FACE));
        Set<String> found = new TreeSet<>();
        for (Method method : market.getDeclaredMethods()) {
            int bits = method.getModifiers();
            if (Modifier.isPublic(bits)) {
                StringBuilder told = new StringBuilder(method.getName());
                for (Class<?> type : method.getParameterTypes()) {
                    told.append(' ').append(type.getName());
                }
                found.add(told.toString());
                c.holds(method + " answers an int", method.getReturnType() == int.class && !Modifier.isStatic(bits));
            } else {
                c.holds(method + " is private", Modifier.isPrivate(bits));
                c.holds(method + " has a name of its own", !isPublicName(method.getName()));
            }
        }
        c.holds("the methods are " + due + ", but are " + found, due.equals(found));
    }

    private static void noPublicNames(Class<?> inside) {
        for (Method method : inside.getDeclaredMethods()) {
            c.holds(method + " has a name of its own", !isPublicName(method.getName()));
        }
    }

    /** Beside its constants a class has some twenty fields; the constants are of few types. */
    private static void fewFields(Class<?> any) {
        int fields = 0;
        for (Field field : any.getDeclaredFields()) {
            if (Modifier.isStatic(field.getModifiers())) {
                c.holds(field + " is final", Modifier.isFinal(field.getModifiers()));
                c.holds(field + " is a constant or a row of them", Set.of(int.class, int[].class).contains(field.getType()));
            } else {
                fields++;
            }
        }
        c.holds(any + " has " + fields + " fields", fields <= 20);
    }

    private static boolean isPublicName(String name) {
        for (String told : FACE) {
            if (told.split(" ")[0].equals(name)) {
                return true;
            }
        }
        return false;
    }
}
