/** The edges that promises 11 to 18 name. */
public final class EdgesOfHoursTest extends Edges {
    public static void main(String[] args) throws ReflectiveOperationException {
        run(EdgesOfHoursTest.class);
    }

    // ---- 11: hours

    static void p11OneHourAndFortyEight() {
        MovingMarket x = row(0, 1, 0);
        call(x, "change", 0, 2, 60);
        due(1, x, "hours", 1);
        due(1, x, "count", 0);
        due(48, x, "hours", 48);
        due(49, x, "count", 0);
        due(11, x, "of", 0, 2);
        due(1, x, "of", 0, 1);
    }

    static void p11BeyondHoursTooFewTooMany() {
        for (int n : new int[] {0, -1, 49, MIN, MAX}) {
            refused(BEYOND, of(3), "hours", n);
        }
    }

    static void p11StateHourWouldBeAbove999() {
        MovingMarket x = at(951);
        due(0, x, "hours", 48);
        due(999, x, "count", 0);
        refused(STATE, of(3, 952), "hours", 48);
        refused(STATE, of(3, 999), "hours", 1);
        MovingMarket y = at(998);
        due(0, y, "hours", 1);
        due(999, y, "count", 0);
    }

    static void p11BeyondIsToldBeforeState() {
        refused(BEYOND, of(3, 999), "hours", 0);
        refused(BEYOND, of(3, 999), "hours", 49);
        refused(BEYOND, of(3, 999), "hours", MAX);
    }

    // ---- 12: stay

    static void p12NobodyOrAll() {
        due(0, new MovingMarket(), "stay");
        due(0, row(0, 1, 0, 1, 2, 3, 4, 5, 6, 7), "stay");
        MovingMarket x = row(0, 20, 0, 1, 2, 3, 4, 5, 6, 7);
        due(255, x, "stay");
    }

    static void p12ByWhatTheyHaveBehindTheSellingOfThisHour() {
        MovingMarket x = row(0, 3, 0, 1, 2, 3);
        call(x, "change", 0, 2, 4);
        call(x, "change", 1, 2, 3);
        call(x, "change", 2, 2, 2);
        call(x, "change", 3, 2, 0);
        due(14, x, "stay");
        due(4, x, "of", 0, 2);
        due(3, x, "of", 1, 2);
        due(0, x, "count", 3);
        due(0, x, "count", 0);
    }

    static void p12ThoseThatRest() {
        MovingMarket x = row(2, 0, 5, 6, 7);
        call(x, "change", 1, 0, 2);
        call(x, "change", 2, 0, 4);
        due(4, x, "stay");
        call(x, "hours", 1);
        due(6, x, "stay");
    }

    static void p12AtTheLastHourToo() {
        MovingMarket x = row(999, 0, 5, 6);
        call(x, "change", 1, 0, 2);
        due(2, x, "stay");
    }

    // ---- 13: ahead

    static void p13NoHoursAndNinetySix() {
        MovingMarket x = row(0, 1, 5);
        call(x, "change", 0, 2, 99);
        due(0, x, "ahead", 0, 0);
        due(0, x, "ahead", 0, 1);
        due(4095 - 32, x, "ahead", 0, 2);
        due(0, x, "ahead", 0, 3);
        due(5, x, "ahead", 0, 4);
        due(96, x, "ahead", 96, 0);
        due(0, x, "ahead", 96, 1);
        due(4095 - 32, x, "ahead", 96, 2);
        due(192, x, "ahead", 96, 3);
        due(5, x, "ahead", 96, 4);
        due(6, x, "ahead", 1, 4);
        due(4, x, "ahead", 95, 4);
    }

    static void p13WithoutStalls() {
        MovingMarket x = new MovingMarket();
        due(0, x, "ahead", 96, 0);
        due(0, x, "ahead", 96, 1);
        due(4095, x, "ahead", 96, 2);
        due(0, x, "ahead", 96, 3);
        due(BEYOND, x, "ahead", 96, 4);
    }

    static void p13WithEightStalls() {
        MovingMarket x = row(0, 20, 11, 0, 1, 2, 3, 4, 5, 6);
        due(255, x, "ahead", 1, 1);
        due(4095 - 0x87f, x, "ahead", 1, 2);
        due(11, x, "ahead", 1, 4);
        due(6, x, "ahead", 1, 11);
        due(BEYOND, x, "ahead", 1, 12);
    }

    static void p13BeyondHoursTooFewTooMany() {
        for (int n : new int[] {-1, 97, MIN, MAX}) {
            refused(BEYOND, of(3), "ahead", n, 0);
        }
    }

    static void p13BeyondWhatTooSmall() {
        refused(BEYOND, of(3), "ahead", 5, -1);
        refused(BEYOND, of(3), "ahead", 5, MIN);
    }

    static void p13BeyondNoSuchStall() {
        refused(BEYOND, of(3), "ahead", 5, 7);
        refused(BEYOND, of(3), "ahead", 5, MAX);
        refused(BEYOND, of(0), "ahead", 0, 4);
        refused(BEYOND, of(8), "ahead", 0, 12);
    }

    static void p13StateHourWouldBeAbove999() {
        due(0, at(903), "ahead", 96, 0);
        due(0, at(999), "ahead", 0, 0);
        for (int what = 0; what < 7; what++) {
            refused(STATE, of(3, 904), "ahead", 96, what);
            refused(STATE, of(3, 999), "ahead", 1, what);
        }
    }

    static void p13BeyondIsToldBeforeState() {
        refused(BEYOND, of(3, 999), "ahead", 97, 0);
        refused(BEYOND, of(3, 999), "ahead", MAX, 0);
        refused(BEYOND, of(3, 999), "ahead", 96, 7);
        refused(BEYOND, of(3, 999), "ahead", 96, -1);
    }

    // ---- 14: when

    static void p14ZeroIfItIsThere() {
        due(0, row(0, 0, 3, 7), "when", 1, 7);
        due(0, row(0, 20, 3, 7), "when", 1, 7);
    }

    static void p14FirstRoundElevenToZero() {
        MovingMarket x = row(0, 0, 11);
        due(1, x, "when", 0, 0);
        due(11, x, "when", 0, 10);
    }

    static void p14LateInTheHoursAhead() {
        // A lazy one goes at the strokes of 0, 6, .. 60.
        MovingMarket x = row(0, 0, 0);
        call(x, "change", 0, 0, 4);
        due(61, x, "when", 0, 11);
        MovingMarket y = row(1, 0, 0);
        call(y, "change", 0, 0, 4);
        due(66, y, "when", 0, 11);
    }

    /** Idle ones at 10 and 0, lazy ones at 2, 11, 8 and 5; one is passed again and again at the place that it wants. */
    private static MovingMarket crowded(int hour) {
        MovingMarket x = row(hour, 0, 10, 0, 2, 11, 8, 5);
        int[] goods = {36, 23, 64, 10, 65, 64};
        for (int stall = 0; stall < 6; stall++) {
            call(x, "change", stall, 0, stall < 2 ? 2 : 4);
            call(x, "change", stall, 2, goods[stall]);
        }
        call(x, "visits", 5, 1);
        call(x, "visits", 7, 6);
        return x;
    }

    static void p14NinetySixIsFoundNinetySevenNot() {
        MovingMarket x = crowded(3);
        due(96, x, "when", 0, 3);
        due(3, x, "ahead", 96, 4);
        refused(NONE, () -> crowded(0), "when", 0, 4);
        MovingMarket y = crowded(0);
        call(y, "hours", 1);
        due(4, y, "ahead", 96, 4);
        due(96, y, "when", 0, 4);
    }

    static void p14NoneIfItNeverIs() {
        refused(NONE, of(1), "when", 0, 11);
        refused(NONE, () -> row(0, 20, 0), "when", 0, 1);
    }

    static void p14BeyondStallTooSmallTooLarge() {
        for (int stall : new int[] {-1, 3, MIN, MAX}) {
            refused(BEYOND, of(3), "when", stall, 0);
        }
        refused(BEYOND, of(0), "when", 0, 0);
        refused(BEYOND, of(8), "when", 8, 0);
    }

    static void p14BeyondPlaceTooSmallTooLarge() {
        for (int place : new int[] {-1, 12, MIN, MAX}) {
            refused(BEYOND, of(3), "when", 0, place);
        }
    }

    static void p14StateHourIsAbove903() {
        due(0, row(903, 0, 5), "when", 0, 5);
        due(11, row(903, 0, 5), "when", 0, 4);
        refused(STATE, of(3, 904), "when", 0, 0);
        refused(STATE, of(3, 999), "when", 0, 0);
    }

    static void p14BeyondIsToldBeforeStateStateBeforeNone() {
        refused(BEYOND, of(3, 904), "when", 3, 0);
        refused(BEYOND, of(3, 904), "when", 0, 12);
        refused(STATE, of(1, 904), "when", 0, 11);
    }

    // ---- 15: empty

    static void p15ZeroIfItHasNone() {
        MovingMarket x = row(0, 0, 3, 7);
        call(x, "change", 1, 2, 0);
        due(0, x, "empty", 1);
    }

    static void p15NinetySixIsFoundNinetySevenNot() {
        MovingMarket x = row(0, 1, 3);
        call(x, "change", 0, 2, 96);
        due(96, x, "empty", 0);
        call(x, "change", 0, 2, 97);
        due(NONE, x, "empty", 0);
        call(x, "change", 0, 2, 1);
        due(1, x, "empty", 0);
    }

    static void p15NoneIfItNeverIs() {
        refused(NONE, () -> row(0, 0, 3, 7), "empty", 1);
    }

    static void p15BeyondStallTooSmallTooLarge() {
        for (int stall : new int[] {-1, 3, MIN, MAX}) {
            refused(BEYOND, of(3), "empty", stall);
        }
        refused(BEYOND, of(0), "empty", 0);
        refused(BEYOND, of(8), "empty", 8);
    }

    static void p15StateHourIsAbove903() {
        due(20, row(903, 1, 5), "empty", 0);
        refused(STATE, of(3, 904), "empty", 0);
        refused(STATE, () -> {
            MovingMarket x = market(3, 999);
            call(x, "change", 0, 2, 0);
            return x;
        }, "empty", 0);
    }

    static void p15BeyondIsToldBeforeStateStateBeforeNone() {
        refused(BEYOND, of(3, 904), "empty", 3);
        refused(STATE, () -> row(904, 0, 3), "empty", 0);
    }

    // ---- 16: again

    static void p16OneHourIfNobodyGoes() {
        due(1, row(0, 20, 3, 7), "again");
        MovingMarket x = row(1, 0, 3);
        call(x, "change", 0, 0, 2);
        due(1, x, "again");
    }

    static void p16NotAtOnce() {
        due(12, row(0, 0, 3, 7), "again");
    }

    static void p16AllOfThem() {
        // The first passes the idle one once and is at 3 behind 11 hours, the idle one is at 8 behind 23 and 24.
        MovingMarket x = row(0, 0, 3, 8);
        call(x, "change", 1, 0, 2);
        due(3, x, "ahead", 11, 4);
        due(23, x, "again");
        // The last is at 9 all the while.
        MovingMarket z = row(0, 0, 3, 9);
        call(z, "change", 1, 2, 0);
        due(11, z, "again");
    }

    static void p16OfEight() {
        MovingMarket x = row(0, 0, 11, 0, 1, 2, 3, 4, 5, 6);
        due(12, x, "again");
        for (int stall = 0; stall < 8; stall++) {
            call(x, "change", stall, 2, 0);
        }
        due(1, x, "again");
    }

    static void p16NinetySixIsFound() {
        MovingMarket x = row(0, 0, 4, 11);
        call(x, "visits", 7, 1);
        call(x, "change", 0, 2, 9);
        call(x, "change", 1, 0, 2);
        call(x, "change", 1, 2, 9);
        call(x, "hours", 3);
        due(96, x, "again");
    }

    static void p16NoneIfTheyNeverAre() {
        refused(NONE, () -> {
            MovingMarket x = row(0, 1, 3);
            call(x, "change", 0, 2, 2);
            return x;
        }, "again");
    }

    static void p16StateHourIsAbove903() {
        due(12, row(903, 0, 3), "again");
        refused(STATE, () -> row(904, 0, 3), "again");
        refused(STATE, of(3, 999), "again");
        refused(STATE, of(0, 904), "again");
    }

    // ---- 17: there

    static void p17NoHoursAndNinetySix() {
        MovingMarket x = row(0, 0, 11, 4);
        due(0, x, "there", 11, 0);
        due(1, x, "there", 4, 0);
        due(0, x, "there", 11, 96);
        due(0, x, "there", 0, 1);
        due(0, x, "there", 10, 95);
    }

    static void p17NoneIsThere() {
        refused(NONE, () -> row(0, 0, 11, 4), "there", 11, 1);
        refused(NONE, of(0), "there", 0, 0);
        refused(NONE, of(8), "there", 2, 0);
    }

    static void p17BeyondPlaceTooSmallTooLarge() {
        for (int place : new int[] {-1, 12, MIN, MAX}) {
            refused(BEYOND, of(3), "there", place, 0);
        }
    }

    static void p17BeyondHoursTooFewTooMany() {
        for (int n : new int[] {-1, 97, MIN, MAX}) {
            refused(BEYOND, of(3), "there", 0, n);
        }
    }

    static void p17StateHourWouldBeAbove999() {
        due(0, row(903, 0, 11), "there", 11, 96);
        due(0, row(999, 0, 11), "there", 11, 0);
        refused(STATE, () -> row(904, 0, 11), "there", 11, 96);
        refused(STATE, () -> row(999, 0, 11), "there", 0, 1);
    }

    static void p17BeyondIsToldBeforeStateStateBeforeNone() {
        refused(BEYOND, of(3, 999), "there", 0, 97);
        refused(BEYOND, of(3, 999), "there", 12, 96);
        refused(STATE, of(0, 999), "there", 0, 96);
    }

    // ---- 18: passes

    static void p18ZeroIfTheNextPlaceIsFree() {
        due(0, row(0, 0, 11), "passes", 0);
        due(0, row(0, 0, 11, 0), "passes", 0);
    }

    static void p18ZeroIfItStays() {
        MovingMarket x = row(1, 3, 4, 5, 6);
        call(x, "change", 0, 2, 0);
        call(x, "change", 1, 2, 3);
        call(x, "change", 2, 0, 2);
        for (int stall = 0; stall < 3; stall++) {
            due(0, x, "passes", stall);
        }
    }

    static void p18SevenRoundElevenToZero() {
        MovingMarket x = row(0, 0, 8, 9, 10, 11, 0, 1, 2, 3);
        for (int stall = 1; stall < 8; stall++) {
            call(x, "change", stall, 2, 0);
        }
        due(7, x, "passes", 0);
    }

    static void p18ThoseThatStayBehindTheSellingOfThisHour() {
        MovingMarket x = row(0, 3, 4, 5, 6);
        call(x, "change", 1, 2, 3);
        due(1, x, "passes", 0);
        call(x, "change", 1, 2, 4);
        due(0, x, "passes", 0);
        due(4, x, "of", 1, 2);
    }

    static void p18OnlyThoseThatStandNext() {
        MovingMarket x = row(0, 0, 4, 5, 7);
        call(x, "change", 1, 2, 0);
        call(x, "change", 2, 2, 0);
        due(1, x, "passes", 0);
    }

    static void p18AtTheLastHourToo() {
        MovingMarket x = row(999, 0, 4, 5);
        call(x, "change", 1, 0, 2);
        due(1, x, "passes", 0);
        due(0, x, "passes", 1);
    }

    static void p18BeyondStallTooSmallTooLarge() {
        for (int stall : new int[] {-1, 3, MIN, MAX}) {
            refused(BEYOND, of(3), "passes", stall);
        }
        refused(BEYOND, of(0), "passes", 0);
        refused(BEYOND, of(8), "passes", 8);
    }
}
