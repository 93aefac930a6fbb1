/** Promises 37 to 44: hold, as, sheet, write, copy, load, fit, judge. */
public final class SheetsTest {
    private static final Check c = new Check();

    public static void main(String[] args) {
        hold();
        as();
        sheet();
        write();
        copy();
        copyWithin();
        load();
        fit();
        fitFindings();
        judge();
        judgeFindings();
        c.end();
    }

    /** A sheet of so many bits with these numbers. */
    private static void fill(MovingMarket x, int s, int bits, int... numbers) {
        x.sheet(s, bits, numbers.length);
        for (int i = 0; i < numbers.length; i++) {
            x.write(s, i, numbers[i]);
        }
    }

    private static void hold() {
        MovingMarket x = new MovingMarket();
        x.stall(0, 0);
        c.due("hold(0, 0)", x.hold(0, 0), 1);
        c.due("hold(9, 0)", x.hold(9, 0), 1);
        c.due("spots", x.count(7), 2);
        c.due("hold(9, -1)", x.hold(9, -1), 1);
        c.due("hold(8, -1)", x.hold(8, -1), 1);
        c.due("spots", x.count(7), 1);
        c.due("hold(0, 1)", x.hold(0, 1), Check.BEYOND);
        c.due("hold(0, -2)", x.hold(0, -2), Check.BEYOND);
        c.due("hold(10, 0)", x.hold(10, 0), Check.BEYOND);
        c.due("hold(-1, 0)", x.hold(-1, 0), Check.BEYOND);
        c.due("as it was", x.as(0, 0), 0);
    }

    private static void as() {
        int[] above = {-1, 0, 0, 1, 2, 0, 5};
        MovingMarket x = new MovingMarket();
        for (int kind = 0; kind < 7; kind++) {
            x.stall(kind, kind);
            x.hold(kind, kind);
        }
        for (int spot = 0; spot < 7; spot++) {
            for (int kind = 0; kind < 7; kind++) {
                boolean is = spot == kind || above[spot] == kind || kind == 0;
                c.due("as(" + spot + ", " + kind + ")", x.as(spot, kind), is ? spot : Check.KIND);
            }
        }
        c.due("as(7, 0)", x.as(7, 0), Check.MISSING);
        c.due("as(10, 0)", x.as(10, 0), Check.BEYOND);
        c.due("as(-1, 0)", x.as(-1, 0), Check.BEYOND);
        c.due("as(7, 7)", x.as(7, 7), Check.BEYOND);
        c.due("as(0, -1)", x.as(0, -1), Check.BEYOND);
        x.change(0, 0, 6);
        c.due("as(0, 5) of another kind now", x.as(0, 5), 0);
    }

    private static void sheet() {
        MovingMarket x = new MovingMarket();
        c.due("sheet(0, 8, 40)", x.sheet(0, 8, 40), 40);
        c.due("sheet(3, 16, 0)", x.sheet(3, 16, 0), 0);
        c.due("of none, but there", x.load(3), 0);
        c.due("sheet(1, 32, 5)", x.sheet(1, 32, 5), 5);
        c.due("sheet(-1, 8, 5)", x.sheet(-1, 8, 5), Check.BEYOND);
        c.due("sheet(4, 8, 5)", x.sheet(4, 8, 5), Check.BEYOND);
        c.due("sheet(4, 8, -1)", x.sheet(4, 8, -1), Check.BEYOND);
        c.due("sheet(0, 7, 5)", x.sheet(0, 7, 5), Check.BEYOND);
        c.due("sheet(0, -8, -1)", x.sheet(0, -8, -1), Check.BEYOND);
        c.due("sheet(0, 64, 5)", x.sheet(0, 64, 5), Check.BEYOND);
        c.due("sheet(0, 8, -1)", x.sheet(0, 8, -1), Check.SIZE);
        c.due("sheet(0, 0, -1)", x.sheet(0, 0, -1), Check.SIZE);
        c.due("sheet(0, 8, MIN)", x.sheet(0, 8, Integer.MIN_VALUE), Check.SIZE);
        c.due("sheet(0, 8, 41)", x.sheet(0, 8, 41), Check.BEYOND);
        c.due("sheet(0, 0, 41)", x.sheet(0, 0, 41), Check.BEYOND);
        c.due("sheet(0, 0, MAX)", x.sheet(0, 0, Integer.MAX_VALUE), Check.BEYOND);
        c.due("as it was", x.write(0, 39, 9), 1);
        c.due("sheet(0, 0, 40)", x.sheet(0, 0, 40), 0);
        c.due("missing", x.write(0, 39, 9), Check.MISSING);
        c.due("sheet(0, 8, 2)", x.sheet(0, 8, 2), 2);
        fill(x, 0, 8, 9, 9);
        c.due("all 0 again", x.sheet(0, 8, 2), 2);
        x.load(0);
        c.due("0", x.placeOf(1, 0), 0);
    }

    private static void write() {
        MovingMarket x = new MovingMarket();
        c.due("write(0, 0, 1) missing", x.write(0, 0, 1), Check.MISSING);
        c.due("write(4, 0, 1)", x.write(4, 0, 1), Check.BEYOND);
        c.due("write(-1, 0, 1)", x.write(-1, 0, 1), Check.BEYOND);
        x.sheet(0, 8, 3);
        c.due("write(0, 3, 1)", x.write(0, 3, 1), Check.BEYOND);
        c.due("write(0, -1, 1)", x.write(0, -1, 1), Check.BEYOND);
        c.due("write(0, MIN, 1)", x.write(0, Integer.MIN_VALUE, 1), Check.BEYOND);
        // -1 stands for no stall, and only the lowest bits count.
        int[] bits = {8, 16, 32};
        int[] ones = {255, 65535, -1};
        for (int k = 0; k < 3; k++) {
            fill(x, 1, bits[k], ones[k], 0, 0, 0, 0, 0, 0, 0, 0, 0, 0, 0);
            c.due("-1 of " + bits[k], x.judge(1, 0), 2);
        }
        fill(x, 1, 16, 255);
        c.due("255 of 16", x.judge(1, 0), 1);
        fill(x, 1, 32, 65535);
        c.due("65535 of 32", x.judge(1, 0), 1);
        fill(x, 1, 8, 256 + 7, 128);
        c.due("263 of 8 is 7, 128 of 8 is below 0", x.load(1), 1);
        c.due("7", x.placeOf(0, 0), 7);
        fill(x, 1, 16, 65536 + 8, 32768);
        c.due("65544 of 16 is 8, 32768 of 16 is below 0", x.load(1), 1);
        c.due("8", x.placeOf(0, 0), 8);
        fill(x, 1, 32, 65536);
        c.due("65536 of 32", x.load(1), 0);
    }

    private static void copy() {
        MovingMarket x = new MovingMarket();
        c.due("copy() both missing", x.copy(0, 0, 1, 0, 0), Check.MISSING);
        fill(x, 0, 8, 1, 2, 3, 4);
        c.due("copy() one missing", x.copy(0, 0, 1, 0, 0), Check.MISSING);
        c.due("copy() the other missing", x.copy(1, 0, 0, 0, 0), Check.MISSING);
        c.due("copy() no such sheet", x.copy(0, 0, 4, 0, 0), Check.BEYOND);
        c.due("copy() no such one", x.copy(-1, 0, 1, 0, 0), Check.BEYOND);
        fill(x, 1, 16, 9, 9, 9);
        c.due("copy() of other bits", x.copy(0, 0, 1, 0, 1), Check.KIND);
        c.due("copy() of other bits: before the rest", x.copy(0, -1, 1, 9, 1), Check.KIND);
        fill(x, 1, 8, 9, 9, 9);
        c.due("copy(0, 1, 1, 0, 2)", x.copy(0, 1, 1, 0, 2), 2);
        c.due("load(1)", x.load(1), 3);
        c.due("2", x.placeOf(0, 0), 2);
        c.due("3", x.placeOf(1, 0), 3);
        c.due("9", x.placeOf(2, 0), 9);
        c.due("copy() of none", x.copy(0, 4, 1, 3, 0), 0);
        c.due("copy() of none, from beyond", x.copy(0, 5, 1, 0, 0), Check.BEYOND);
        c.due("copy() of none, to beyond", x.copy(0, 0, 1, 4, 0), Check.BEYOND);
        c.due("copy() of all", x.copy(0, 0, 1, 0, 4), Check.BEYOND);
        c.due("copy() from too far", x.copy(0, 3, 1, 0, 2), Check.BEYOND);
        c.due("copy() to too far", x.copy(0, 0, 1, 2, 2), Check.BEYOND);
        c.due("copy() from below 0", x.copy(0, -1, 1, 0, 1), Check.BEYOND);
        c.due("copy() to below 0", x.copy(0, 0, 1, -1, 1), Check.BEYOND);
        c.due("copy() of below 0", x.copy(0, 0, 1, 0, -1), Check.BEYOND);
        int max = Integer.MAX_VALUE;
        c.due("copy() of wild numbers", x.copy(0, max, 1, max, max), Check.BEYOND);
        c.due("copy() of wild from", x.copy(0, max, 1, 0, 1), Check.BEYOND);
        c.due("copy() of wild n", x.copy(0, 1, 1, 1, max), Check.BEYOND);
        c.due("copy() of wild n below 0", x.copy(0, 1, 1, 1, Integer.MIN_VALUE), Check.BEYOND);
    }

    private static void copyWithin() {
        int[][] want = {{1, 1, 2, 3}, {2, 3, 4, 4}};
        for (int way = 0; way < 2; way++) {
            MovingMarket x = new MovingMarket();
            fill(x, 2, 32, 1, 2, 3, 4);
            c.due("copy() within", x.copy(2, way, 2, 1 - way, 3), 3);
            x.load(2);
            for (int place = 0; place < 4; place++) {
                c.due("as they all were", x.placeOf(place, 0), want[way][place]);
            }
        }
    }

    private static void load() {
        MovingMarket x = new MovingMarket();
        fill(x, 0, 8, 0, 20, 5, 21, 6);
        c.due("load(0)", x.load(0), 3);
        int[] visits = {0, 20, 5, 3, 3};
        for (int place = 0; place < 5; place++) {
            c.due("visits of " + place, x.placeOf(place, 0), visits[place]);
        }
        fill(x, 0, 8, 1, -1, 1);
        c.due("load() ends below 0", x.load(0), 1);
        c.due("visits of 2 stay", x.placeOf(2, 0), 5);
        x.sheet(0, 16, 40);
        c.due("load() ends with the places", x.load(0), 12);
        c.due("no visits", x.count(4), 0);
        x.sheet(0, 16, 12);
        c.due("load() of twelve", x.load(0), 12);
        x.sheet(0, 16, 0);
        c.due("load() of none", x.load(0), 0);
        c.due("load() missing", x.load(1), Check.MISSING);
        c.due("load(4)", x.load(4), Check.BEYOND);
        c.due("load(-1)", x.load(-1), Check.BEYOND);
    }

    private static void fit() {
        MovingMarket x = Check.quiet();
        x.sheet(0, 8, 0);
        c.due("no words, no stalls: one order", x.fit(0), 1);
        x.stall(0, 0);
        x.stall(0, 3);
        x.stall(2, 7);
        c.due("no words", x.fit(0), 6);
        fill(x, 0, 8, 0, 3, 0);
        c.due("0 is at 3 at once", x.fit(0), 2);
        fill(x, 0, 8, 0, 3, 0, 1);
        c.due("one is left over", x.fit(0), 2);
        fill(x, 0, 8, 0, 3, 0, 1, 3);
        c.due("two are left over", x.fit(0), 2);
        fill(x, 0, 8, 0, 3, 0, 1, 3, 0);
        c.due("two on one place", x.fit(0), 0);
        fill(x, 0, 8, 0, 3, 0, 1, 1, 1);
        c.due("two words", x.fit(0), 1);
        fill(x, 0, 8, 1, 1, 1, 0, 3, 0);
        c.due("two words, the later first", x.fit(0), 1);
        fill(x, 0, 8, 2, 8, 1, 2, 8, 2);
        c.due("the idle one rests", x.fit(0), 2);
        x.change(2, 0, 0);
        fill(x, 0, 8, 0, 0, 24);
        c.due("24 hours", x.fit(0), 2);
        fill(x, 0, 8, 0, 1, 25);
        c.due("25 hours", x.fit(0), 0);
        fill(x, 0, 8, 0, 0, -1);
        c.due("-1 hours", x.fit(0), 0);
        fill(x, 0, 8, 3, 0, 0);
        c.due("no such stall", x.fit(0), 0);
        fill(x, 0, 8, -1, 1, 0);
        c.due("no such stall either", x.fit(0), 0);
        fill(x, 0, 8, 0, 12, 0);
        c.due("no such place", x.fit(0), 0);
        fill(x, 0, 8, 0, -1, 0);
        c.due("no such place either", x.fit(0), 0);
        fill(x, 0, 32, 0, 3, 0, Integer.MIN_VALUE, Integer.MAX_VALUE, Integer.MAX_VALUE);
        c.due("wild words", x.fit(0), 0);
        c.due("nobody moves", x.of(0, 1), 0);
        x.sheet(0, 8, 40);
        c.due("13 words alike", x.fit(0), 2);
    }

    private static void fitFindings() {
        MovingMarket x = Check.quiet();
        c.due("fit() missing", x.fit(0), Check.MISSING);
        c.due("fit(4)", x.fit(4), Check.BEYOND);
        c.due("fit(-1)", x.fit(-1), Check.BEYOND);
        x.sheet(0, 8, 0);
        for (int place = 0; place < 6; place++) {
            x.stall(0, place);
        }
        c.due("fit() of 6", x.fit(0), 720);
        x.stall(0, 6);
        c.due("fit() of 7", x.fit(0), Check.SIZE);
        c.due("fit() missing, of 7", x.fit(1), Check.MISSING);
        MovingMarket y = Check.quiet();
        y.sheet(0, 8, 0);
        for (int k = 0; k < 20; k++) {
            y.hours(48);
        }
        y.hours(15);
        c.due("fit() at 975", y.fit(0), 1);
        y.hours(1);
        c.due("fit() at 976", y.fit(0), Check.STATE);
        c.due("fit() missing at 976", y.fit(1), Check.MISSING);
        for (int place = 0; place < 7; place++) {
            y.stall(0, place);
        }
        c.due("fit() of 7 at 976", y.fit(0), Check.STATE);
    }

    private static void judge() {
        MovingMarket x = Check.quiet();
        x.stall(0, 0);
        x.stall(0, 11);
        fill(x, 0, 8, 0, -1, -1, -1, -1, -1, -1, -1, -1, -1, -1, 1);
        c.due("twelve are right", x.judge(0, 0), 0);
        c.due("the first is wrong", x.judge(0, 1), 1);
        c.due("all round", x.judge(0, 12), 0);
        c.due("nobody moves", x.of(0, 1), 0);
        x.write(0, 0, 1);
        c.due("an hour on, from the first on", x.judge(0, 1), 2);
        x.write(0, 1, 0);
        c.due("an hour on, but the last", x.judge(0, 1), 12);
        x.write(0, 11, -1);
        c.due("an hour on, all", x.judge(0, 1), 0);
        x.write(0, 5, 7);
        c.due("right ones behind a wrong one", x.judge(0, 1), 6);
        fill(x, 0, 8, 0, -1, -1);
        c.due("three are right, but three", x.judge(0, 0), 4);
        fill(x, 0, 8, 0, -1, -1, -1, -1, -1, -1, -1, -1, -1, -1);
        c.due("eleven are right", x.judge(0, 0), 12);
        fill(x, 0, 8, 0, -1, -1, -1, -1, -1, -1, -1, -1, -1, -1, 1, -1);
        c.due("a 13th stands for no place", x.judge(0, 0), 13);
        x.sheet(0, 8, 0);
        c.due("of none", x.judge(0, 0), 1);
    }

    private static void judgeFindings() {
        MovingMarket x = Check.quiet();
        c.due("judge() missing", x.judge(0, 0), Check.MISSING);
        c.due("judge() missing, before n", x.judge(0, 97), Check.MISSING);
        c.due("judge(4, 0)", x.judge(4, 0), Check.BEYOND);
        c.due("judge(-1, 0)", x.judge(-1, 0), Check.BEYOND);
        x.sheet(0, 8, 3);
        c.due("judge(0, -1)", x.judge(0, -1), Check.BEYOND);
        c.due("judge(0, 97)", x.judge(0, 97), Check.BEYOND);
        c.due("judge(0, 96)", x.judge(0, 96), 1);
        for (int k = 0; k < 19; k++) {
            x.hours(48);
        }
        c.due("judge(0, 87) at 912", x.judge(0, 87), 1);
        c.due("judge(0, 88) at 912", x.judge(0, 88), Check.STATE);
        c.due("judge(0, 97) at 912", x.judge(0, 97), Check.BEYOND);
        c.due("judge(1, 97) at 912", x.judge(1, 97), Check.MISSING);
    }
}
