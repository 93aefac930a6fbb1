/** Promises 29 to 33: worth, best, thief, lots, seed. */
public final class PlacesTest {
    private static final Check c = new Check();

    public static void main(String[] args) {
        worth();
        best();
        thief();
        lots();
        lotsOfOne();
        seed();
        lastHours();
        c.end();
    }

    private static MovingMarket two() {
        MovingMarket x = Check.quiet();
        x.visits(0, 2);
        x.visits(3, 7);
        x.visits(8, 7);
        x.stall(0, 0);
        x.stall(0, 3);
        return x;
    }

    private static void worth() {
        MovingMarket x = two();
        c.due("worth(0, 0, 1)", x.worth(0, 0, 1), 0);
        c.due("worth(0, 3, 1) in a change", x.worth(0, 3, 1), 10);
        c.due("worth(0, 8, 1) alone", x.worth(0, 8, 1), 10);
        c.due("worth(1, 0, 1) is a loss", x.worth(1, 0, 1), -10);
        c.due("worth(1, 5, 1)", x.worth(1, 5, 1), -14);
        c.due("worth(0, 2, 2)", x.worth(0, 2, 2), 10);
        // From 11 on it comes to 0 and 3 in 5 hours; from 0 on so, too.
        c.due("worth(0, 11, 5)", x.worth(0, 11, 5), 0);
        // One that rests at 1 is passed from 0 on, and so 3 is reached from 0 as soon as from 1.
        x.stall(0, 1);
        x.change(2, 2, 0);
        c.due("worth(0, 1, 3) by one that rests", x.worth(0, 1, 3), -4);
        c.due("worth(2, 0, 1)", x.worth(2, 0, 1), 0);
        c.due("worth(3, 0, 1)", x.worth(3, 0, 1), Check.BEYOND);
        c.due("worth(-1, 0, 1)", x.worth(-1, 0, 1), Check.BEYOND);
        c.due("worth(0, 12, 1)", x.worth(0, 12, 1), Check.BEYOND);
        c.due("worth(0, -1, 1)", x.worth(0, -1, 1), Check.BEYOND);
        c.due("worth(0, 0, 0)", x.worth(0, 0, 0), Check.BEYOND);
        c.due("worth(0, 0, 49)", x.worth(0, 0, 49), Check.BEYOND);
        c.due("worth(0, 0, 48)", x.worth(0, 0, 48), 0);
        c.due("nobody moves", x.of(0, 1), 0);
    }

    private static void best() {
        MovingMarket x = two();
        c.due("best(0, 1): the least of two", x.best(0, 1), 3);
        c.due("best(1, 1)", x.best(1, 1), 3);
        x.visits(8, 8);
        c.due("best(1, 1) elsewhere", x.best(1, 1), 8);
        x.change(1, 2, 0);
        c.due("best(1, 1) without goods: the least, not its own", x.best(1, 1), 0);
        c.due("best(2, 1)", x.best(2, 1), Check.BEYOND);
        c.due("best(-1, 1)", x.best(-1, 1), Check.BEYOND);
        c.due("best(0, 0)", x.best(0, 0), Check.BEYOND);
        c.due("best(0, 49)", x.best(0, 49), Check.BEYOND);
        MovingMarket y = Check.quiet();
        y.visits(11, 1);
        y.stall(0, 4);
        c.due("best(0, 1): the last place", y.best(0, 1), 11);
        c.due("best(0, 3): behind two hours", y.best(0, 3), 9);
        c.due("nobody moves", y.of(0, 1), 4);
    }

    private static void thief() {
        MovingMarket x = two();
        c.due("thief(0, 0)", x.thief(0, 0), 20);
        c.due("thief(1, 0)", x.thief(1, 0), 0);
        c.due("thief(1, 1)", x.thief(1, 1), 18);
        c.due("thief(4, 1)", x.thief(4, 1), 13);
        c.due("thief(0, 1)", x.thief(0, 1), 0);
        c.due("thief(12, 0)", x.thief(12, 0), Check.BEYOND);
        c.due("thief(-1, 0)", x.thief(-1, 0), Check.BEYOND);
        c.due("thief(0, -1)", x.thief(0, -1), Check.BEYOND);
        c.due("thief(0, 97)", x.thief(0, 97), Check.BEYOND);
        c.due("no goods are gone", x.count(2), 40);
    }

    private static void lots() {
        MovingMarket x = new MovingMarket();
        int[] place = {2, 5, 11};
        for (int p : place) {
            x.stall(0, p);
        }
        int z = 1;
        for (int n = 1; n <= 12; n++) {
            for (int k = 0; k < n; k++) {
                z = z * 1103515245 + 12345;
                int one = (z >>> 8) % 3;
                z = z * 1103515245 + 12345;
                int other = (z >>> 8) % 3;
                int was = place[one];
                place[one] = place[other];
                place[other] = was;
            }
            c.due("lots(" + n + ")", x.lots(n), 100 * place[0] + place[2]);
            c.due("place of 1", x.of(1, 1), place[1]);
            c.due("z", x.count(6), z);
        }
        c.due("lots(0)", x.lots(0), Check.BEYOND);
        c.due("lots(-1)", x.lots(-1), Check.BEYOND);
        c.due("lots(13)", x.lots(13), Check.BEYOND);
        c.due("z stays", x.count(6), z);
        MovingMarket y = new MovingMarket();
        c.due("lots(1) of none", y.lots(1), Check.STATE);
        c.due("lots(0) of none", y.lots(0), Check.BEYOND);
        c.due("z of none", y.count(6), 1);
    }

    private static void lotsOfOne() {
        MovingMarket x = new MovingMarket();
        x.stall(0, 7);
        c.due("lots(1) of one", x.lots(1), 707);
        int z = 1103527590 * 1103515245 + 12345;
        c.due("z behind two draws", x.count(6), z);
    }

    private static void seed() {
        MovingMarket x = new MovingMarket();
        c.due("seed(MIN)", x.seed(Integer.MIN_VALUE), 1);
        c.due("seed(-1000001)", x.seed(-1000001), Integer.MIN_VALUE);
        c.due("count(6) may look like a finding", x.count(6), -1000001);
        c.due("seed(7) may answer what looks like one", x.seed(7), -1000001);
        c.due("that is none", x.status(-1), 0);
        x.stall(0, 0);
        x.stall(0, 1);
        x.seed(-5);
        int z = -5;
        z = z * 1103515245 + 12345;
        int one = (z >>> 8) % 2;
        z = z * 1103515245 + 12345;
        int other = (z >>> 8) % 2;
        c.due("lots(1) of a z below 0", x.lots(1), one == other ? 1 : 100);
    }

    private static void lastHours() {
        MovingMarket x = two();
        for (int k = 0; k < 20; k++) {
            x.hours(48);
        }
        c.due("at 960: worth(0, 0, 39)", x.worth(0, x.of(0, 1), 39), 0);
        c.due("at 960: worth(0, 0, 40)", x.worth(0, 0, 40), Check.STATE);
        c.due("at 960: worth(0, 12, 40)", x.worth(0, 12, 40), Check.BEYOND);
        c.due("at 960: best(0, 39)", x.best(0, 39), 0);
        c.due("at 960: best(0, 40)", x.best(0, 40), Check.STATE);
        c.due("at 960: best(0, 49)", x.best(0, 49), Check.BEYOND);
        c.due("at 960: thief(0, 39)", x.thief(x.of(0, 1), 39), 0);
        c.due("at 960: thief(0, 40)", x.thief(0, 40), Check.STATE);
        c.due("at 960: thief(0, 97)", x.thief(0, 97), Check.BEYOND);
        c.holds("at 960: lots(12)", x.lots(12) >= 0);
    }
}
