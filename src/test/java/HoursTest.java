/** Promises 11 to 18: hours, stay, ahead, when, empty, again, there, passes. */
public final class HoursTest {
    private static final Check c = new Check();

    public static void main(String[] args) {
        hours();
        strokeAllAtOnce();
        stay();
        ahead();
        when();
        empty();
        again();
        there();
        passes();
        lastHours();
        c.end();
    }

    /** A stall at 0 and an idle one at 1; all offers are 3. */
    private static MovingMarket pair() {
        MovingMarket x = new MovingMarket();
        x.stall(0, 0);
        x.stall(2, 1);
        return x;
    }

    private static void hours() {
        MovingMarket x = pair();
        int[] first = {1, 3, 4, 5, 6, 7, 7, 7};
        int[] second = {2, 2, 3, 3, 4, 4, 4, 4};
        int[] sales = {6, 6, 6, 6, 6, 6, 4, 0};
        for (int h = 0; h < 8; h++) {
            c.due("hours(1) at " + h, x.hours(1), sales[h]);
            c.due("place of 0 at " + (h + 1), x.of(0, 1), first[h]);
            c.due("place of 1 at " + (h + 1), x.of(1, 1), second[h]);
        }
        c.due("hour", x.count(0), 8);
        c.due("coin of 0", x.of(0, 3), 40);
        c.due("coin of 1", x.of(1, 3), 20);
        c.due("sold of 1", x.of(1, 4), 20);
        c.due("coin of all", x.count(3), 60);
        c.due("goods of all", x.count(2), 0);
        c.due("hours(0)", x.hours(0), Check.BEYOND);
        c.due("hours(-1)", x.hours(-1), Check.BEYOND);
        c.due("hours(49)", x.hours(49), Check.BEYOND);
        c.due("hours(MAX)", x.hours(Integer.MAX_VALUE), Check.BEYOND);
        c.due("hour stays", x.count(0), 8);
        MovingMarket y = pair();
        c.due("hours(48)", y.hours(48), 40);
        c.due("hour behind 48", y.count(0), 48);
    }

    private static void strokeAllAtOnce() {
        MovingMarket x = Check.quiet();
        x.stall(0, 10);
        x.stall(0, 11);
        x.stall(2, 0);
        x.stall(2, 1);
        x.hours(1);
        c.due("all go on: 0", x.of(0, 1), 11);
        c.due("all go on: 1", x.of(1, 1), 0);
        c.due("all go on: 2", x.of(2, 1), 1);
        c.due("all go on: 3", x.of(3, 1), 2);
        x.hours(1);
        c.due("onto the place of one that goes", x.of(0, 1), 0);
        c.due("past two that rest", x.of(1, 1), 3);
        c.due("rests", x.of(2, 1), 1);
    }

    private static void stay() {
        MovingMarket x = Check.quiet();
        c.due("stay() of none", x.stay(), 0);
        for (int kind = 0; kind < 7; kind++) {
            x.stall(kind, kind);
        }
        x.visits(0, 20);
        x.spring(3);
        c.due("stay() at 0: 0 sells out", x.stay(), 1);
        c.due("stay() sells nothing", x.of(0, 2), 20);
        x.visits(0, 19);
        c.due("stay() at 0: one is left", x.stay(), 0);
        x.hours(1);
        c.due("stay() at 1", x.stay(), 1 << 2 | 1 << 4);
        x.hours(1);
        c.due("stay() at 2", x.stay(), 1 << 4);
        x.change(6, 2, 0);
        c.due("stay() without goods", x.stay(), 1 << 4 | 1 << 6);
    }

    private static void ahead() {
        MovingMarket x = pair();
        c.due("ahead(0, 0)", x.ahead(0, 0), 0);
        c.due("ahead(2, 0)", x.ahead(2, 0), 12);
        c.due("ahead(96, 0)", x.ahead(96, 0), 40);
        c.due("ahead(6, 1)", x.ahead(6, 1), 0);
        c.due("ahead(7, 1)", x.ahead(7, 1), 3);
        c.due("ahead(0, 2)", x.ahead(0, 2), 4095 - 3);
        c.due("ahead(2, 2)", x.ahead(2, 2), 4095 - 4 - 8);
        c.due("ahead(2, 3)", x.ahead(2, 3), 18);
        c.due("ahead(2, 4)", x.ahead(2, 4), 3);
        c.due("ahead(2, 5)", x.ahead(2, 5), 2);
        c.due("ahead(2, 6)", x.ahead(2, 6), Check.BEYOND);
        c.due("ahead(2, -1)", x.ahead(2, -1), Check.BEYOND);
        c.due("ahead(2, MAX)", x.ahead(2, Integer.MAX_VALUE), Check.BEYOND);
        c.due("ahead(-1, 0)", x.ahead(-1, 0), Check.BEYOND);
        c.due("ahead(97, 0)", x.ahead(97, 0), Check.BEYOND);
        c.due("nothing changes: hour", x.count(0), 0);
        c.due("nothing changes: goods", x.count(2), 40);
        c.due("nothing changes: place", x.of(0, 1), 0);
    }

    private static void when() {
        MovingMarket x = pair();
        c.due("when(0, 0)", x.when(0, 0), 0);
        c.due("when(0, 1)", x.when(0, 1), 1);
        c.due("when(0, 3)", x.when(0, 3), 2);
        c.due("when(0, 7)", x.when(0, 7), 6);
        c.due("when(0, 2)", x.when(0, 2), Check.NONE);
        c.due("when(1, 4)", x.when(1, 4), 5);
        c.due("when(2, 0)", x.when(2, 0), Check.BEYOND);
        c.due("when(-1, 0)", x.when(-1, 0), Check.BEYOND);
        c.due("when(0, 12)", x.when(0, 12), Check.BEYOND);
        c.due("when(0, -1)", x.when(0, -1), Check.BEYOND);
        MovingMarket y = Check.quiet();
        y.stall(4, 0);
        c.due("lazy, 11 places on", y.when(0, 11), 61);
        y.hours(1);
        // It goes at the strokes of 6, 12, .. now: the 10th is that of 60, and then it is 61.
        c.due("lazy, from 1 on", y.when(0, 11), 60);
    }

    private static void empty() {
        MovingMarket x = pair();
        c.due("empty(0)", x.empty(0), 7);
        x.change(0, 2, 0);
        c.due("empty(0) at once", x.empty(0), 0);
        x.change(0, 2, 1);
        c.due("empty(0) soon", x.empty(0), 1);
        c.due("empty(2)", x.empty(2), Check.BEYOND);
        c.due("empty(-1)", x.empty(-1), Check.BEYOND);
        MovingMarket y = Check.quiet();
        for (int place = 0; place < 12; place++) {
            y.visits(place, 1);
        }
        y.stall(0, 0);
        y.change(0, 2, 96);
        c.due("empty behind 96", y.empty(0), 96);
        y.change(0, 2, 97);
        c.due("empty behind 97", y.empty(0), Check.NONE);
    }

    private static void again() {
        MovingMarket x = Check.quiet();
        c.due("again() of none", x.again(), 1);
        x.stall(0, 5);
        c.due("again() of one", x.again(), 12);
        x.change(0, 0, 4);
        c.due("again() of a lazy one", x.again(), 67);
        x.hours(1);
        c.due("again() of one that rests", x.again(), 1);
        MovingMarket y = new MovingMarket();
        y.stall(0, 0);
        y.change(0, 2, 5);
        c.due("again() of one that sells out elsewhere", y.again(), Check.NONE);
        y.change(0, 2, 3);
        c.due("again() of one that sells out here", y.again(), 1);
        // The one at 0 comes to 0 by itself, but not the one at 1.
        MovingMarket z = new MovingMarket();
        z.stall(0, 0);
        z.stall(0, 1);
        z.change(0, 2, 0);
        z.change(1, 2, 4);
        c.due("again() asks for all", z.again(), Check.NONE);
        MovingMarket last = Check.quiet();
        last.visits(7, 1);
        last.stall(0, 4);
        last.stall(2, 11);
        last.change(0, 2, 9);
        last.change(1, 2, 9);
        last.hours(3);
        c.due("again() behind 96", last.again(), 96);
    }

    private static void there() {
        MovingMarket x = pair();
        c.due("there(0, 0)", x.there(0, 0), 0);
        c.due("there(1, 0)", x.there(1, 0), 1);
        c.due("there(3, 2)", x.there(3, 2), 0);
        c.due("there(2, 2)", x.there(2, 2), 1);
        c.due("there(1, 2)", x.there(1, 2), Check.NONE);
        c.due("there(7, 96)", x.there(7, 96), 0);
        c.due("there(12, 0)", x.there(12, 0), Check.BEYOND);
        c.due("there(-1, 0)", x.there(-1, 0), Check.BEYOND);
        c.due("there(0, -1)", x.there(0, -1), Check.BEYOND);
        c.due("there(0, 97)", x.there(0, 97), Check.BEYOND);
    }

    private static void passes() {
        MovingMarket x = pair();
        c.due("passes(0) at 0", x.passes(0), 0);
        c.due("passes(1) at 0", x.passes(1), 0);
        x.hours(1);
        c.due("passes(0) at 1", x.passes(0), 1);
        c.due("passes(1), who stays", x.passes(1), 0);
        c.due("passes(2)", x.passes(2), Check.BEYOND);
        c.due("passes(-1)", x.passes(-1), Check.BEYOND);
        MovingMarket y = Check.quiet();
        int[] places = {8, 10, 11, 0, 1, 2, 4};
        for (int place : places) {
            y.stall(0, place);
        }
        for (int place : places) {
            y.visits(place, 20);
        }
        y.change(0, 2, 21);
        c.due("passes(0): the next place is free", y.passes(0), 0);
        y.change(1, 2, 21);
        c.due("passes(1): those that sell out in this hour", y.passes(1), 4);
        y.change(3, 2, 21);
        c.due("passes(1): one of them goes", y.passes(1), 1);
        c.due("passes(3)", y.passes(3), 2);
        c.due("nothing is sold", y.of(2, 2), 20);
    }

    private static void lastHours() {
        MovingMarket x = pair();
        for (int k = 0; k < 18; k++) {
            x.hours(48);
        }
        x.hours(39);
        c.due("hour", x.count(0), 903);
        c.due("at 903: when", x.when(0, 7), 0);
        c.due("at 903: empty", x.empty(0), 0);
        c.due("at 903: again", x.again(), 1);
        c.due("at 903: ahead(96, 0)", x.ahead(96, 0), 0);
        c.due("at 903: there(7, 96)", x.there(7, 96), 0);
        x.hours(1);
        c.due("at 904: when", x.when(0, 7), Check.STATE);
        c.due("at 904: when of none", x.when(9, 7), Check.BEYOND);
        c.due("at 904: empty", x.empty(0), Check.STATE);
        c.due("at 904: empty of none", x.empty(2), Check.BEYOND);
        c.due("at 904: again", x.again(), Check.STATE);
        c.due("at 904: ahead(96, 0)", x.ahead(96, 0), Check.STATE);
        c.due("at 904: ahead(97, 0)", x.ahead(97, 0), Check.BEYOND);
        c.due("at 904: ahead(96, 6)", x.ahead(96, 6), Check.BEYOND);
        c.due("at 904: ahead(95, 0)", x.ahead(95, 0), 0);
        c.due("at 904: there(7, 96)", x.there(7, 96), Check.STATE);
        c.due("at 904: there(7, 95)", x.there(7, 95), 0);
        c.due("at 904: there(1, 95)", x.there(1, 95), Check.NONE);
        c.due("at 904: there(12, 96)", x.there(12, 96), Check.BEYOND);
        x.hours(48);
        c.due("at 952: hours(48)", x.hours(48), Check.STATE);
        c.due("at 952: hours(49)", x.hours(49), Check.BEYOND);
        c.due("at 952: hours(47)", x.hours(47), 0);
        c.due("hour is the last", x.count(0), 999);
        c.due("at 999: hours(1)", x.hours(1), Check.STATE);
        c.due("at 999: hours(0)", x.hours(0), Check.BEYOND);
        c.due("at 999: ahead(0, 4)", x.ahead(0, 4), 7);
        c.due("at 999: ahead(1, 4)", x.ahead(1, 4), Check.STATE);
        c.due("at 999: stay()", x.stay(), 3);
        x.change(0, 2, 9);
        x.change(1, 2, 9);
        c.due("at 999: stay() of the idle one", x.stay(), 2);
        x.swap(0, 1);
        c.due("at 999: passes()", x.passes(0), 0);
        c.due("hour stays", x.count(0), 999);
    }
}
