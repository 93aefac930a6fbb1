import java.util.ArrayList;
import java.util.Arrays;
import java.util.List;
import java.util.function.Predicate;
import java.util.regex.Matcher;
import java.util.regex.Pattern;

/**
 * The document once more, told in another way: squares are copied freely, the stroke turns the ring of the places
 * that no stayer holds, orders come from a recursion, texts from patterns. It answers what MovingMarket should.
 */
final class Model {
    static final class Stall implements Cloneable {
        int kind;
        int place;
        int goods = 20;
        int coin;
        int sold;

        Stall(int kind, int place) {
            this.kind = kind;
            this.place = place;
        }

        Stall twin() {
            Stall twin = new Stall(kind, place);
            twin.goods = goods;
            twin.coin = coin;
            twin.sold = sold;
            return twin;
        }
    }

    static final class World {
        int[] visits = {3, 3, 3, 3, 3, 3, 3, 3, 3, 3, 3, 3};
        boolean[] shade = new boolean[12];
        int spring;
        List<Stall> stalls = new ArrayList<>();
        int hour;
        int z = 1;
        int[] spots = {-1, -1, -1, -1, -1, -1, -1, -1, -1, -1};

        World twin() {
            World twin = new World();
            twin.visits = visits.clone();
            twin.shade = shade.clone();
            twin.spring = spring;
            for (Stall stall : stalls) {
                twin.stalls.add(stall.twin());
            }
            twin.hour = hour;
            twin.z = z;
            twin.spots = spots.clone();
            return twin;
        }

        int offer(int kind, int place) {
            switch (kind) {
                case 1: return offer(0, place) + offer(0, (place + 1) % 12);
                case 3: return shade[place] ? offer(1, place) : 0;
                case 4: return offer(2, place);
                case 5: return offer(0, place) / 2;
                case 6: return place == spring ? offer(5, place) * 3 : offer(5, place);
                default: return visits[place];
            }
        }

        boolean goes(int kind) {
            return kind == 2 ? hour % 2 == 0 : kind == 4 ? goes(2) && hour % 3 == 0 : true;
        }

        static int price(int kind) {
            return kind == 3 ? price(1) + 1 : kind == 6 ? price(5) + 3 : kind == 4 ? price(2) : kind == 2 ? 1 : 2;
        }

        int sell() {
            int sum = 0;
            for (Stall stall : stalls) {
                int n = Math.min(stall.goods, offer(stall.kind, stall.place));
                stall.goods -= n;
                stall.sold += n;
                stall.coin += n * price(stall.kind);
                sum += n;
            }
            return sum;
        }

        boolean stays(Stall stall) {
            return stall.goods == 0 || !goes(stall.kind);
        }

        int hours(int n) {
            int sum = 0;
            for (int h = 0; h < n; h++) {
                sum += sell();
                List<Integer> ring = new ArrayList<>();
                for (int place = 0; place < 12; place++) {
                    int there = at(place);
                    if (there < 0 || !stays(stalls.get(there))) {
                        ring.add(place);
                    }
                }
                for (Stall stall : stalls) {
                    if (!stays(stall)) {
                        stall.place = ring.get((ring.indexOf(stall.place) + 1) % ring.size());
                    }
                }
                hour++;
            }
            return sum;
        }

        int at(int place) {
            for (int i = 0; i < stalls.size(); i++) {
                if (stalls.get(i).place == place) {
                    return i;
                }
            }
            return -1;
        }

        int draw() {
            z = z * 1103515245 + 12345;
            return z >>> 8;
        }

        void swap(int one, int other) {
            int place = stalls.get(one).place;
            stalls.get(one).place = stalls.get(other).place;
            stalls.get(other).place = place;
        }

        boolean beside(int one, int other) {
            int a = stalls.get(one).place;
            int b = stalls.get(other).place;
            return (a + 1) % 12 == b || (b + 1) % 12 == a;
        }

        int count(Predicate<Stall> is) {
            int set = 0;
            for (int i = 0; i < stalls.size(); i++) {
                set |= is.test(stalls.get(i)) ? 1 << i : 0;
            }
            return set;
        }
    }

    private static final int BEYOND = 0;
    private static final int FULL = 1;
    private static final int KIND = 2;
    private static final int NONE = 3;
    private static final int STATE = 4;
    private static final int MISSING = 5;
    private static final int SIZE = 6;

    private World w = new World();
    private World kept;
    private String tape = "";
    private final int[][] sheets = new int[4][];
    private final int[] bits = new int[4];
    private final int[] told = new int[7];

    private int find(int which) {
        told[which]++;
        return -1000001 - which;
    }

    private static boolean in(int v, int low, int high) {
        return v >= low && v <= high;
    }

    private boolean stallIs(int stall) {
        return in(stall, 0, w.stalls.size() - 1);
    }

    private World ahead(World from, int n) {
        World then = from.twin();
        then.hours(n);
        return then;
    }

    private List<int[]> orders() {
        List<int[]> all = new ArrayList<>();
        grow(all, new int[0]);
        return all;
    }

    private void grow(List<int[]> all, int[] begun) {
        if (begun.length == w.stalls.size()) {
            all.add(begun);
            return;
        }
        for (int next = 0; next < w.stalls.size(); next++) {
            int taken = next;
            if (Arrays.stream(begun).noneMatch(k -> k == taken)) {
                int[] more = Arrays.copyOf(begun, begun.length + 1);
                more[begun.length] = next;
                grow(all, more);
            }
        }
    }

    private World ordered(int[] order) {
        World then = w.twin();
        for (int i = 0; i < order.length; i++) {
            then.stalls.get(i).place = w.stalls.get(order[i]).place;
        }
        return then;
    }

    /** What the act of this name answers; a is 0 where it takes less. */
    int call(String act, int... a) {
        switch (act) {
            case "visits": case "shade": case "spring": case "stall": case "of": case "change": case "swap":
            case "offers": case "placeOf":
                return square(act, a);
            case "hours": case "stay": case "ahead": case "when": case "empty": case "again": case "there":
            case "passes": case "thief": case "beside": case "ever": case "meet":
                return hours(act, a);
            case "most": case "order": case "dawn": case "never": case "fit":
                return orders(act, a);
            case "throwAway": case "wishes": case "deal": case "worth": case "best":
                return coins(act, a);
            case "sheet": case "write": case "copy": case "load": case "judge":
                return sheets(act, a);
            default:
                return rest(act, a);
        }
    }

    private int square(String act, int[] a) {
        boolean place0 = in(a[0], 0, 11);
        switch (act) {
            case "visits": {
                if (!place0 || !in(a[1], 0, 20)) return find(BEYOND);
                int old = w.visits[a[0]];
                w.visits[a[0]] = a[1];
                return old;
            }
            case "shade": {
                if (!place0) return find(BEYOND);
                int old = w.shade[a[0]] ? 1 : 0;
                w.shade[a[0]] = a[1] != 0;
                return old;
            }
            case "spring": {
                if (!place0) return find(BEYOND);
                int old = w.spring;
                w.spring = a[0];
                return old;
            }
            case "stall":
                if (!in(a[0], 0, 6) || !in(a[1], 0, 11)) return find(BEYOND);
                if (w.at(a[1]) >= 0) return find(STATE);
                if (w.stalls.size() == 8) return find(FULL);
                w.stalls.add(new Stall(a[0], a[1]));
                return w.stalls.size() - 1;
            case "of": {
                if (!stallIs(a[0]) || !in(a[1], 0, 6)) return find(BEYOND);
                Stall s = w.stalls.get(a[0]);
                return new int[] {s.kind, s.place, s.goods, s.coin, s.sold, World.price(s.kind), w.goes(s.kind) ? 1 : 0}[a[1]];
            }
            case "change": {
                if (!stallIs(a[0])) return find(BEYOND);
                Stall s = w.stalls.get(a[0]);
                int old = a[1] == 0 ? s.kind : s.goods;
                if (a[1] == 0 && in(a[2], 0, 6)) s.kind = a[2];
                else if (a[1] == 2 && in(a[2], 0, 99)) s.goods = a[2];
                else return find(BEYOND);
                return old;
            }
            case "swap":
                if (!stallIs(a[0]) || !stallIs(a[1])) return find(BEYOND);
                w.swap(a[0], a[1]);
                return 1;
            case "offers":
                if (!stallIs(a[0]) || !in(a[1], 0, 11)) return find(BEYOND);
                return w.offer(w.stalls.get(a[0]).kind, a[1]);
            default:
                if (!place0 || !in(a[1], 0, 2)) return find(BEYOND);
                return a[1] == 0 ? w.visits[a[0]] : a[1] == 1 ? (w.shade[a[0]] ? 1 : 0) : w.at(a[0]);
        }
    }

    private int hours(String act, int[] a) {
        switch (act) {
            case "hours":
                if (!in(a[0], 1, 48)) return find(BEYOND);
                return w.hour + a[0] > 999 ? find(STATE) : w.hours(a[0]);
            case "stay": {
                World then = w.twin();
                then.sell();
                return then.count(then::stays);
            }
            case "ahead": {
                if (!in(a[0], 0, 96) || !in(a[1], 0, 3 + w.stalls.size())) return find(BEYOND);
                if (w.hour + a[0] > 999) return find(STATE);
                World then = w.twin();
                int sold = then.hours(a[0]);
                if (a[1] == 0) return sold;
                if (a[1] == 1) return then.count(s -> s.goods == 0);
                if (a[1] == 2) {
                    int free = 0;
                    for (int place = 0; place < 12; place++) free += then.at(place) < 0 ? 1 << place : 0;
                    return free;
                }
                return a[1] == 3 ? then.stalls.stream().mapToInt(s -> s.coin).sum() : then.stalls.get(a[1] - 4).place;
            }
            case "when":
                if (!stallIs(a[0]) || !in(a[1], 0, 11)) return find(BEYOND);
                return first(0, then -> then.stalls.get(a[0]).place == a[1]);
            case "empty":
                if (!stallIs(a[0])) return find(BEYOND);
                return first(0, then -> then.stalls.get(a[0]).goods == 0);
            case "again":
                return first(1, then -> then.stalls.stream().map(s -> s.place).toList().equals(w.stalls.stream().map(s -> s.place).toList()));
            case "meet":
                if (!stallIs(a[0]) || !stallIs(a[1]) || a[0] == a[1]) return find(BEYOND);
                return first(0, then -> then.beside(a[0], a[1]));
            case "there": case "thief": {
                if (!in(a[0], 0, 11) || !in(a[1], 0, 96)) return find(BEYOND);
                if (w.hour + a[1] > 999) return find(STATE);
                World then = ahead(w, a[1]);
                int stall = then.at(a[0]);
                if (act.equals("thief")) return stall < 0 ? 0 : then.stalls.get(stall).goods;
                return stall < 0 ? find(NONE) : stall;
            }
            case "passes": {
                if (!stallIs(a[0])) return find(BEYOND);
                int from = w.stalls.get(a[0]).place;
                int to = ahead(w, 1).stalls.get(a[0]).place;
                return from == to ? 0 : (to - from + 12) % 12 - 1;
            }
            case "beside": {
                if (!stallIs(a[0])) return find(BEYOND);
                return neighbours(w, a[0]);
            }
            default: {
                if (!stallIs(a[0]) || !in(a[1], 0, 96)) return find(BEYOND);
                if (w.hour + a[1] > 999) return find(STATE);
                int set = 0;
                for (int h = 0; h <= a[1]; h++) set |= neighbours(ahead(w, h), a[0]);
                return set;
            }
        }
    }

    private static int neighbours(World then, int stall) {
        int set = 0;
        for (int i = 0; i < then.stalls.size(); i++) {
            set |= then.beside(i, stall) ? 1 << i : 0;
        }
        return set;
    }

    private int first(int from, Predicate<World> is) {
        if (w.hour > 903) {
            return find(STATE);
        }
        World then = ahead(w, from);
        for (int h = from; h <= 96; h++) {
            if (is.test(then)) {
                return h;
            }
            then.hours(1);
        }
        return find(NONE);
    }

    private int orders(String act, int[] a) {
        int n = act.equals("fit") ? 24 : a[a.length - 1];
        boolean fine = true;
        switch (act) {
            case "fit":
                if (!in(a[0], 0, 3)) return find(BEYOND);
                if (sheets[a[0]] == null) return find(MISSING);
                break;
            case "most": fine = n >= 1; break;
            case "order": fine = n >= 1 && stallIs(a[0]); break;
            case "dawn": fine = stallIs(a[0]) && in(a[1], 0, 11); break;
            default: fine = stallIs(a[0]) && stallIs(a[1]) && a[0] != a[1]; break;
        }
        if (!fine || !in(n, 0, 24)) return find(BEYOND);
        if (w.hour + n > 999) return find(STATE);
        if (w.stalls.size() > 6) return find(SIZE);
        int most = -1;
        int[] winner = null;
        int count = 0;
        for (int[] order : orders()) {
            World then = ordered(order);
            if (act.equals("never")) {
                boolean ever = then.beside(a[0], a[1]);
                for (int h = 0; h < n; h++) {
                    then.hours(1);
                    ever |= then.beside(a[0], a[1]);
                }
                count += ever ? 0 : 1;
            } else if (act.equals("fit")) {
                count += fits(sheets[a[0]], then) ? 1 : 0;
            } else {
                int sold = then.hours(n);
                if (act.equals("dawn") && then.stalls.get(a[0]).place == a[1]) return order[a[0]];
                if (sold > most) {
                    most = sold;
                    winner = order;
                }
            }
        }
        switch (act) {
            case "most": return most;
            case "order": return winner[a[0]];
            case "dawn": return find(NONE);
            default: return count;
        }
    }

    private boolean fits(int[] words, World then) {
        for (int i = 0; i + 2 < words.length; i += 3) {
            if (!stallIs(words[i]) || !in(words[i + 2], 0, 24)) return false;
            if (ahead(then, words[i + 2]).stalls.get(words[i]).place != words[i + 1]) return false;
        }
        return true;
    }

    private int coins(String act, int[] a) {
        int n = a[a.length - 1];
        boolean fine = act.equals("deal") || stallIs(a[0]) && (!act.equals("worth") || in(a[1], 0, 11));
        if (!fine || !in(n, 1, 48)) return find(BEYOND);
        if (w.hour + n > 999) return find(STATE);
        int best = 0;
        int most = -1;
        World plain = ahead(w, n);
        switch (act) {
            case "throwAway":
                for (int less = 0; less <= w.stalls.get(a[0]).goods; less++) {
                    World then = w.twin();
                    then.stalls.get(a[0]).goods -= less;
                    then.hours(n);
                    if (then.stalls.get(a[0]).coin > most) {
                        most = then.stalls.get(a[0]).coin;
                        best = less;
                    }
                }
                return best;
            case "wishes":
                best = a[0];
                most = plain.stalls.get(a[0]).coin;
                for (int i = 0; i < w.stalls.size(); i++) {
                    World then = swapped(a[0], i, n);
                    if (then.stalls.get(a[0]).coin > most) {
                        most = then.stalls.get(a[0]).coin;
                        best = i;
                    }
                }
                return best;
            case "deal":
                for (int i = 0; i < w.stalls.size(); i++) {
                    for (int j = i + 1; j < w.stalls.size(); j++) {
                        World then = swapped(i, j, n);
                        if (then.stalls.get(i).coin > plain.stalls.get(i).coin && then.stalls.get(j).coin > plain.stalls.get(j).coin) {
                            return 10 * i + j;
                        }
                    }
                }
                return find(NONE);
            case "worth":
                return coinAt(a[0], a[1], n) - plain.stalls.get(a[0]).coin;
            default:
                for (int place = 0; place < 12; place++) {
                    if (coinAt(a[0], place, n) > most) {
                        most = coinAt(a[0], place, n);
                        best = place;
                    }
                }
                return best;
        }
    }

    private World swapped(int one, int other, int n) {
        World then = w.twin();
        then.swap(one, other);
        then.hours(n);
        return then;
    }

    private int coinAt(int stall, int place, int n) {
        World then = w.twin();
        int there = then.at(place);
        if (there >= 0) {
            then.swap(stall, there);
        } else {
            then.stalls.get(stall).place = place;
        }
        then.hours(n);
        return then.stalls.get(stall).coin;
    }

    private int sheets(String act, int[] a) {
        if (!in(a[0], 0, 3)) return find(BEYOND);
        int[] sheet = sheets[a[0]];
        switch (act) {
            case "sheet":
                if (a[1] != 0 && a[1] != 8 && a[1] != 16 && a[1] != 32) return find(BEYOND);
                if (a[2] < 0) return find(SIZE);
                if (a[2] > 40) return find(BEYOND);
                sheets[a[0]] = a[1] == 0 ? null : new int[a[2]];
                bits[a[0]] = a[1];
                return a[1] == 0 ? 0 : a[2];
            case "write":
                if (sheet == null) return find(MISSING);
                if (!in(a[1], 0, sheet.length - 1)) return find(BEYOND);
                sheet[a[1]] = a[2] << (32 - bits[a[0]]) >> (32 - bits[a[0]]);
                return 1;
            case "copy": {
                if (!in(a[2], 0, 3)) return find(BEYOND);
                int[] target = sheets[a[2]];
                if (sheet == null || target == null) return find(MISSING);
                if (bits[a[0]] != bits[a[2]]) return find(KIND);
                if (a[1] < 0 || a[3] < 0 || a[4] < 0) return find(BEYOND);
                if ((long) a[1] + a[4] > sheet.length || (long) a[3] + a[4] > target.length) return find(BEYOND);
                int[] were = sheet.clone();
                for (int i = 0; i < a[4]; i++) target[a[3] + i] = were[a[1] + i];
                return a[4];
            }
            case "load": {
                if (sheet == null) return find(MISSING);
                for (int i = 0; i < sheet.length; i++) {
                    if (i == 12 || !in(sheet[i], 0, 20)) return i;
                    w.visits[i] = sheet[i];
                }
                return sheet.length;
            }
            default: {
                if (sheet == null) return find(MISSING);
                if (!in(a[1], 0, 96)) return find(BEYOND);
                if (w.hour + a[1] > 999) return find(STATE);
                World then = ahead(w, a[1]);
                for (int i = 0; i < sheet.length; i++) {
                    if (i == 12 || sheet[i] != then.at(i)) return 1 + i;
                }
                return sheet.length == 12 ? 0 : 1 + sheet.length;
            }
        }
    }

    private int rest(String act, int[] a) {
        switch (act) {
            case "lots":
                if (!in(a[0], 1, 12)) return find(BEYOND);
                if (w.stalls.isEmpty()) return find(STATE);
                for (int k = 0; k < a[0]; k++) {
                    int one = w.draw() % w.stalls.size();
                    w.swap(one, w.draw() % w.stalls.size());
                }
                return 100 * w.stalls.get(0).place + w.stalls.get(w.stalls.size() - 1).place;
            case "seed": {
                int old = w.z;
                w.z = a[0];
                return old;
            }
            case "feed":
                if (!in(a[1], 1, 4)) return find(BEYOND);
                if (tape.length() + a[1] > 120) return find(FULL);
                for (int shift = 8 * a[1] - 8; shift >= 0; shift -= 8) tape += (char) (a[0] >> shift & 255);
                return tape.length();
            case "wipe": {
                int had = tape.length();
                tape = "";
                return had;
            }
            case "text": {
                World then = w.twin();
                int items = ModelText.read(tape, then);
                tape = "";
                w = items < 0 ? w : then;
                return items;
            }
            case "hold":
                if (!in(a[0], 0, 9) || !in(a[1], -1, w.stalls.size() - 1)) return find(BEYOND);
                w.spots[a[0]] = a[1];
                return 1;
            case "as": {
                if (!in(a[0], 0, 9) || !in(a[1], 0, 6)) return find(BEYOND);
                if (w.spots[a[0]] < 0) return find(MISSING);
                String[] under = {"0", "01", "02", "013", "024", "05", "056"};
                boolean is = under[w.stalls.get(w.spots[a[0]]).kind].contains("" + a[1]);
                return is ? w.spots[a[0]] : find(KIND);
            }
            case "image":
                kept = w.twin();
                return 1;
            case "undo":
                if (kept == null) return find(NONE);
                w = kept.twin();
                return w.hour;
            case "tear": {
                int was = kept == null ? 0 : 1;
                kept = null;
                return was;
            }
            case "count":
                if (!in(a[0], 0, 7)) return find(BEYOND);
                return new int[] {w.hour, w.stalls.size(), w.stalls.stream().mapToInt(s -> s.goods).sum(),
                    w.stalls.stream().mapToInt(s -> s.coin).sum(), Arrays.stream(w.visits).sum(), tape.length(), w.z,
                    (int) Arrays.stream(w.spots).filter(k -> k >= 0).count()}[a[0]];
            default:
                if (!in(a[0], -1, 6)) return find(BEYOND);
                return a[0] < 0 ? Arrays.stream(told).sum() : told[a[0]];
        }
    }

    /** Texts by patterns: all tokens first, then what may stand next. */
    static final class ModelText {
        private static final List<String> KINDS = List.of("stall", "double", "idle", "shaded", "lazy", "blind", "cheese");

        private final List<String> tokens = new ArrayList<>();
        private final List<Integer> begins = new ArrayList<>();
        private int at;

        private ModelText(String tape) {
            Matcher matcher = Pattern.compile("(?s) +|[a-z]+|[0-9]+|.").matcher(tape);
            while (matcher.find()) {
                if (matcher.group().charAt(0) != ' ') {
                    tokens.add(matcher.group());
                    begins.add(matcher.start());
                }
            }
            tokens.add("");
            begins.add(tape.length());
        }

        /** A fault is told by an exception with its place. */
        static int read(String tape, World world) {
            ModelText text = new ModelText(tape);
            int items = 0;
            try {
                do {
                    text.item(world);
                    items++;
                } while (text.perhaps(";"));
                text.must("");
            } catch (IllegalStateException fault) {
                return -1 - text.begins.get(text.at);
            }
            return items;
        }

        private boolean perhaps(String token) {
            if (!tokens.get(at).equals(token)) {
                return false;
            }
            at++;
            return true;
        }

        private void must(String token) {
            if (!perhaps(token)) {
                throw new IllegalStateException();
            }
        }

        private int number(int low, int high) {
            String token = tokens.get(at);
            if (!token.matches("[0-9]+")) {
                throw new IllegalStateException();
            }
            java.math.BigInteger value = new java.math.BigInteger(token);
            if (value.bitLength() > 20 || !in(value.intValue(), low, high)) {
                throw new IllegalStateException();
            }
            at++;
            return value.intValue();
        }

        private void item(World world) {
            int kind = KINDS.indexOf(tokens.get(at));
            if (kind >= 0) {
                if (world.stalls.size() == 8) {
                    throw new IllegalStateException();
                }
                at++;
                must("at");
                int place = number(0, 11);
                if (world.at(place) >= 0) {
                    at--;
                    throw new IllegalStateException();
                }
                world.stalls.add(new Stall(kind, place));
                if (perhaps("goods")) {
                    world.stalls.get(world.stalls.size() - 1).goods = number(0, 99);
                }
            } else if (perhaps("visits")) {
                int from = number(0, 11);
                int to = perhaps("to") ? number(from, 11) : from;
                must("are");
                Arrays.fill(world.visits, from, to + 1, number(0, 20));
            } else if (perhaps("shade")) {
                world.shade[number(0, 11)] = true;
            } else if (perhaps("sun")) {
                world.shade[number(0, 11)] = false;
            } else {
                must("spring");
                world.spring = number(0, 11);
            }
        }
    }
}
