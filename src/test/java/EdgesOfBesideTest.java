/** The edges that promises 25 to 28 name. */
public final class EdgesOfBesideTest extends Edges {
    public static void main(String[] args) throws ReflectiveOperationException {
        run(EdgesOfBesideTest.class);
    }

    // ---- 25: beside

    static void p25OnBothSidesRoundElevenToZero() {
        MovingMarket x = row(0, 0, 0, 1, 11, 10);
        due(6, x, "beside", 0);
        due(1, x, "beside", 1);
        due(9, x, "beside", 2);
        due(4, x, "beside", 3);
    }

    static void p25NobodyIsBeside() {
        due(0, row(0, 0, 5), "beside", 0);
        due(0, row(0, 0, 5, 7, 3), "beside", 0);
    }

    static void p25TheFirstAndTheLastOfEight() {
        MovingMarket x = row(0, 0, 0, 2, 3, 4, 5, 6, 7, 11);
        due(128, x, "beside", 0);
        due(1, x, "beside", 7);
    }

    static void p25Now() {
        // Behind this hour's selling the one passes the other.
        MovingMarket x = row(0, 3, 4, 5);
        call(x, "change", 1, 2, 3);
        due(2, x, "beside", 0);
        MovingMarket y = row(0, 3, 4, 6);
        call(y, "change", 1, 2, 0);
        due(0, y, "beside", 0);
    }

    static void p25BeyondStallTooSmallTooLarge() {
        for (int stall : new int[] {-1, 3, MIN, MAX}) {
            refused(BEYOND, of(3), "beside", stall);
        }
        refused(BEYOND, of(0), "beside", 0);
        refused(BEYOND, of(8), "beside", 8);
    }

    // ---- 26: ever

    /** 0 goes from 4 on; 1 rests at 8. */
    private static MovingMarket oneRests(int hour) {
        MovingMarket x = row(hour, 0, 4, 8);
        call(x, "change", 1, 2, 0);
        return x;
    }

    static void p26NowCountsWithoutHours() {
        MovingMarket x = row(0, 0, 4, 5, 8);
        due(2, x, "ever", 0, 0);
        call(x, "change", 1, 2, 0);
        due(2, x, "ever", 0, 0);
        due(2, x, "ever", 0, 2);
    }

    static void p26TheLastHourCountsTheNextDoesNot() {
        MovingMarket x = oneRests(0);
        due(0, x, "ever", 0, 2);
        due(2, x, "ever", 0, 3);
        due(2, x, "ever", 0, 96);
    }

    static void p26AnHourBetweenCounts() {
        // 0 sells out at 3 in the 8th hour, away from 1.
        MovingMarket x = row(0, 0, 10, 0);
        call(x, "change", 1, 2, 0);
        call(x, "visits", 5, 20);
        due(0, x, "ahead", 96, 4 + 1);
        due(5, x, "ahead", 96, 4);
        due(2, x, "ever", 0, 96);
    }

    static void p26NinetySixHours() {
        due(0, row(0, 0, 4, 8), "ever", 0, 96);
        due(2, row(0, 0, 4, 5), "ever", 0, 96);
    }

    static void p26BeyondStallTooSmallTooLarge() {
        for (int stall : new int[] {-1, 3, MIN, MAX}) {
            refused(BEYOND, of(3), "ever", stall, 0);
        }
        refused(BEYOND, of(0), "ever", 0, 0);
        refused(BEYOND, of(8), "ever", 8, 0);
    }

    static void p26BeyondHoursTooFewTooMany() {
        for (int n : new int[] {-1, 97, MIN, MAX}) {
            refused(BEYOND, of(3), "ever", 0, n);
        }
    }

    static void p26StateHourWouldBeAbove999() {
        due(2, oneRests(903), "ever", 0, 96);
        due(0, oneRests(999), "ever", 0, 0);
        refused(STATE, () -> oneRests(904), "ever", 0, 96);
        refused(STATE, () -> oneRests(999), "ever", 0, 1);
    }

    static void p26BeyondIsToldBeforeState() {
        refused(BEYOND, of(3, 999), "ever", 3, 96);
        refused(BEYOND, of(3, 999), "ever", 0, 97);
    }

    // ---- 27: meet

    static void p27ZeroIfTheyAreBesideNow() {
        due(0, row(0, 0, 11, 0), "meet", 0, 1);
        due(0, row(0, 0, 11, 0), "meet", 1, 0);
    }

    static void p27TheFirstHour() {
        due(3, oneRests(0), "meet", 0, 1);
        due(3, oneRests(0), "meet", 1, 0);
    }

    /** Two lazy ones; the one sells out at 11, and the other one comes by late. */
    private static MovingMarket late(int hour) {
        MovingMarket x = row(0, 0, 2, 5);
        call(x, "visits", 11, 1);
        call(x, "change", 0, 0, 4);
        call(x, "change", 1, 0, 4);
        call(x, "change", 0, 2, 3);
        call(x, "change", 1, 2, 7);
        for (int h = 0; h < hour; h++) {
            call(x, "hours", 1);
        }
        return x;
    }

    static void p27NinetySixIsFoundNinetySevenNot() {
        due(96, late(1), "meet", 0, 1);
        refused(NONE, () -> late(0), "meet", 0, 1);
    }

    static void p27NoneIfTheyNeverAre() {
        refused(NONE, () -> row(0, 0, 4, 6), "meet", 0, 1);
    }

    static void p27BeyondEitherStallTooSmallTooLarge() {
        for (int stall : new int[] {-1, 3, MIN, MAX}) {
            refused(BEYOND, of(3), "meet", stall, 0);
            refused(BEYOND, of(3), "meet", 0, stall);
        }
        refused(BEYOND, of(0), "meet", 0, 1);
        refused(BEYOND, of(8), "meet", 7, 8);
    }

    static void p27BeyondOneAndTheSame() {
        refused(BEYOND, of(3), "meet", 0, 0);
        refused(BEYOND, of(3), "meet", 2, 2);
    }

    static void p27StateHourIsAbove903() {
        due(0, row(903, 0, 4, 5), "meet", 0, 1);
        due(3, oneRests(903), "meet", 0, 1);
        refused(STATE, () -> row(904, 0, 4, 5), "meet", 0, 1);
        refused(STATE, of(3, 999), "meet", 0, 1);
    }

    static void p27BeyondStateNoneInThisOrder() {
        refused(BEYOND, of(3, 999), "meet", 1, 1);
        refused(BEYOND, of(3, 999), "meet", 0, 3);
        refused(STATE, () -> row(904, 0, 4, 6), "meet", 0, 1);
    }

    // ---- 28: never

    static void p28AtOnceCountsWithoutHours() {
        // Of 2, 3 and 7 two are beside: 2 of the 6 orders bring 0 and 1 there.
        due(4, row(0, 0, 2, 3, 7), "never", 0, 1, 0);
        due(4, row(0, 0, 7, 2, 3), "never", 1, 0, 0);
    }

    static void p28BehindTheLastHourCountsBehindTheNextNot() {
        // Who is at 7 rests, the other one goes from 2 on (or the other way round, from 7 on).
        MovingMarket x = row(0, 0, 2, 7);
        call(x, "change", 1, 2, 0);
        // 2, 3, 4, 5, 6: beside behind 4 hours; 7, 8, 9, 10, 11, 0, 1: behind 6.
        due(2, x, "never", 0, 1, 3);
        due(1, x, "never", 0, 1, 4);
        due(1, x, "never", 0, 1, 5);
        due(0, x, "never", 0, 1, 6);
    }

    static void p28TwentyFourHours() {
        // The lazy one rests behind hour 0 and 6, 12, 18; the one at 11 rests for good.
        MovingMarket x = row(0, 0, 5, 11);
        call(x, "change", 0, 0, 4);
        call(x, "change", 1, 2, 0);
        // From 5 (or 11) on it is 5 places, the last at the stroke of 24: too late by one.
        due(2, x, "never", 0, 1, 24);
        MovingMarket y = row(0, 0, 6, 11);
        call(y, "change", 0, 0, 4);
        call(y, "change", 1, 2, 0);
        // From 6 on it is beside behind 19 hours; from 11 on to 5 it is never.
        due(1, y, "never", 0, 1, 19);
        due(2, y, "never", 0, 1, 18);
        call(x, "hours", 1);
        // At 6 and 11 as at hour 1: 7, 8, 9, 10 at the strokes of 6, 12, 18, 24, the last behind 24 hours.
        due(6, x, "of", 0, 1);
        due(2, x, "never", 0, 1, 23);
        due(1, x, "never", 0, 1, 24);
    }

    static void p28TwoOrdersOfTwo() {
        due(0, row(0, 0, 2, 3), "never", 0, 1, 0);
        due(2, row(0, 0, 2, 4), "never", 0, 1, 24);
    }

    static void p28BeyondEitherStallTooSmallTooLarge() {
        for (int stall : new int[] {-1, 3, MIN, MAX}) {
            refused(BEYOND, of(3), "never", stall, 0, 1);
            refused(BEYOND, of(3), "never", 0, stall, 1);
        }
        refused(BEYOND, of(0), "never", 0, 1, 1);
        refused(BEYOND, of(6), "never", 5, 6, 1);
    }

    static void p28BeyondOneAndTheSame() {
        refused(BEYOND, of(3), "never", 0, 0, 1);
        refused(BEYOND, of(3), "never", 2, 2, 1);
    }

    static void p28BeyondHoursTooFewTooMany() {
        for (int n : new int[] {-1, 25, MIN, MAX}) {
            refused(BEYOND, of(3), "never", 0, 1, n);
        }
    }

    static void p28StateHourWouldBeAbove999() {
        due(2, row(975, 0, 2, 4), "never", 0, 1, 24);
        due(2, row(999, 0, 2, 4), "never", 0, 1, 0);
        refused(STATE, () -> row(976, 0, 2, 4), "never", 0, 1, 24);
        refused(STATE, () -> row(999, 0, 2, 4), "never", 0, 1, 1);
    }

    static void p28SizeMoreThanSixStalls() {
        due(720, row(0, 0, 0, 2, 4, 6, 8, 10), "never", 0, 5, 24);
        refused(SIZE, of(7), "never", 0, 1, 0);
        refused(SIZE, of(8), "never", 7, 6, 24);
    }

    static void p28BeyondStateSizeInThisOrder() {
        refused(BEYOND, of(7, 999), "never", 1, 1, 1);
        refused(BEYOND, of(7, 999), "never", 7, 1, 1);
        refused(BEYOND, of(7, 999), "never", 0, 1, 25);
        refused(STATE, of(7, 999), "never", 0, 1, 1);
    }
}
