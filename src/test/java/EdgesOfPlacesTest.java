/** The edges that promises 29 to 33 name. */
public final class EdgesOfPlacesTest extends Edges {
    public static void main(String[] args) throws ReflectiveOperationException {
        run(EdgesOfPlacesTest.class);
    }

    // ---- 29: worth

    static void p29ZeroWhereItIs() {
        MovingMarket x = row(0, 5, 11, 4);
        due(0, x, "worth", 0, 11, 1);
        due(0, x, "worth", 1, 4, 48);
    }

    static void p29AtTheFirstAndTheLastPlace() {
        MovingMarket x = row(0, 1, 5);
        call(x, "visits", 0, 6);
        call(x, "visits", 11, 8);
        due(10, x, "worth", 0, 0, 1);
        due(14, x, "worth", 0, 11, 1);
        due(24, x, "worth", 0, 11, 2);
    }

    static void p29ALossIsBelowZeroAndNoFinding() {
        MovingMarket x = row(0, 0, 5);
        call(x, "visits", 5, 20);
        call(x, "change", 0, 2, 99);
        due(-40, x, "worth", 0, 6, 1);
        due(0, x, "status", -1);
    }

    static void p29OneThatIsThereComesToItsPlace() {
        // Stall 1 rests at 3; if 0 comes there, it rests at 4, and is passed on the way to 5.
        MovingMarket x = row(0, 0, 4, 3);
        call(x, "visits", 5, 5);
        call(x, "change", 1, 2, 0);
        due(0, x, "worth", 0, 3, 2);
        due(-10, x, "worth", 0, 2, 2);
        due(4, x, "of", 0, 1);
        due(3, x, "of", 1, 1);
        // The other way round: 0 rests.
        call(x, "swap", 0, 1);
        call(x, "change", 1, 2, 20);
        call(x, "change", 0, 2, 0);
        due(0, x, "worth", 1, 3, 2);
    }

    static void p30OneThatIsThereComesToItsPlace() {
        // Stall 1 rests at 3: from there 0 comes to 5 past it, as from 4; both are worth as much.
        MovingMarket x = row(0, 0, 4, 3);
        call(x, "visits", 5, 5);
        call(x, "change", 1, 2, 0);
        call(x, "change", 0, 2, 8);
        due(3, x, "best", 0, 2);
    }

    static void p29OneHourAndFortyEight() {
        MovingMarket x = row(0, 0, 5);
        call(x, "visits", 5, 2);
        due(-4, x, "worth", 0, 6, 1);
        // At 5 in the hours 0, 12, 24, 36, or from 6 on 11, 23, 35, 47.
        due(0, x, "worth", 0, 6, 48);
        due(-4, x, "worth", 0, 6, 47);
    }

    static void p29BeyondStallTooSmallTooLarge() {
        for (int stall : new int[] {-1, 3, MIN, MAX}) {
            refused(BEYOND, of(3), "worth", stall, 0, 1);
        }
        refused(BEYOND, of(0), "worth", 0, 0, 1);
        refused(BEYOND, of(8), "worth", 8, 0, 1);
    }

    static void p29BeyondPlaceTooSmallTooLarge() {
        for (int place : new int[] {-1, 12, MIN, MAX}) {
            refused(BEYOND, of(3), "worth", 0, place, 1);
        }
    }

    static void p29BeyondHoursTooFewTooMany() {
        for (int n : new int[] {0, -1, 49, MIN, MAX}) {
            refused(BEYOND, of(3), "worth", 0, 0, n);
        }
    }

    static void p29StateHourWouldBeAbove999() {
        due(0, row(951, 1, 5), "worth", 0, 5, 48);
        due(0, row(998, 1, 5), "worth", 0, 5, 1);
        refused(STATE, of(3, 952), "worth", 0, 0, 48);
        refused(STATE, of(3, 999), "worth", 0, 0, 1);
    }

    static void p29BeyondIsToldBeforeState() {
        refused(BEYOND, of(3, 999), "worth", 3, 0, 1);
        refused(BEYOND, of(3, 999), "worth", 0, 12, 1);
        refused(BEYOND, of(3, 999), "worth", 0, 0, 49);
    }

    // ---- 30: best

    static void p30TheFirstAndTheLastPlace() {
        MovingMarket x = row(0, 1, 5, 8);
        call(x, "visits", 11, 2);
        due(11, x, "best", 0, 1);
        call(x, "visits", 0, 3);
        due(0, x, "best", 0, 1);
        due(11, x, "best", 1, 2);
    }

    static void p30OfSeveralTheLeast() {
        MovingMarket x = row(0, 1, 5, 8);
        call(x, "visits", 3, 6);
        call(x, "visits", 8, 6);
        due(3, x, "best", 0, 1);
        due(3, x, "best", 1, 1);
        due(0, row(0, 1, 5), "best", 0, 1);
    }

    static void p30ItsOwnPlace() {
        MovingMarket x = row(0, 1, 5, 8);
        call(x, "visits", 8, 6);
        due(8, x, "best", 1, 1);
    }

    static void p30FortyEightHours() {
        MovingMarket x = row(0, 0, 5);
        call(x, "visits", 5, 1);
        // It comes to 5 a fifth time in 48 hours from nowhere.
        due(0, x, "best", 0, 48);
        // In 37 it does a fourth time from 5 alone.
        due(5, x, "best", 0, 37);
    }

    static void p30BeyondStallTooSmallTooLarge() {
        for (int stall : new int[] {-1, 3, MIN, MAX}) {
            refused(BEYOND, of(3), "best", stall, 1);
        }
        refused(BEYOND, of(0), "best", 0, 1);
        refused(BEYOND, of(8), "best", 8, 1);
    }

    static void p30BeyondHoursTooFewTooMany() {
        for (int n : new int[] {0, -1, 49, MIN, MAX}) {
            refused(BEYOND, of(3), "best", 0, n);
        }
    }

    static void p30StateHourWouldBeAbove999() {
        due(0, row(951, 0, 5), "best", 0, 48);
        due(0, row(998, 0, 5), "best", 0, 1);
        refused(STATE, of(3, 952), "best", 0, 48);
        refused(STATE, of(3, 999), "best", 0, 1);
    }

    static void p30BeyondIsToldBeforeState() {
        refused(BEYOND, of(3, 999), "best", 3, 1);
        refused(BEYOND, of(3, 999), "best", 0, 49);
    }

    // ---- 31: thief

    static void p31NoHoursAndNinetySix() {
        MovingMarket x = row(0, 1, 5);
        call(x, "change", 0, 2, 99);
        due(99, x, "thief", 5, 0);
        due(98, x, "thief", 6, 1);
        due(3, x, "thief", 5, 96);
        due(99, x, "of", 0, 2);
    }

    static void p31ZeroWithoutAStall() {
        MovingMarket x = row(0, 1, 5);
        due(0, x, "thief", 6, 0);
        due(0, x, "thief", 5, 1);
        due(0, new MovingMarket(), "thief", 0, 96);
        due(0, x, "status", -1);
    }

    static void p31ZeroAtAStallWithoutGoods() {
        MovingMarket x = row(0, 20, 5);
        due(0, x, "thief", 5, 1);
    }

    static void p31TheFirstAndTheLastPlace() {
        MovingMarket x = row(0, 1, 11);
        due(20, x, "thief", 11, 0);
        due(19, x, "thief", 0, 1);
    }

    static void p31BeyondPlaceTooSmallTooLarge() {
        for (int place : new int[] {-1, 12, MIN, MAX}) {
            refused(BEYOND, of(3), "thief", place, 0);
        }
    }

    static void p31BeyondHoursTooFewTooMany() {
        for (int n : new int[] {-1, 97, MIN, MAX}) {
            refused(BEYOND, of(3), "thief", 0, n);
        }
    }

    static void p31StateHourWouldBeAbove999() {
        due(20, row(903, 0, 5), "thief", 5, 96);
        due(20, row(999, 0, 5), "thief", 5, 0);
        refused(STATE, of(3, 904), "thief", 0, 96);
        refused(STATE, of(3, 999), "thief", 0, 1);
        refused(STATE, of(0, 999), "thief", 0, 1);
    }

    static void p31BeyondIsToldBeforeState() {
        refused(BEYOND, of(3, 999), "thief", 12, 1);
        refused(BEYOND, of(3, 999), "thief", 0, 97);
    }

    // ---- 32: lots

    static void p32OnceAndTwelveTimes() {
        // From 1 on the draws' rests by 5 are 4, 2, ..: the last and the one between change.
        MovingMarket x = row(0, 0, 1, 2, 3, 4, 5);
        due(103, x, "lots", 1);
        due(-1770082073, x, "count", 6);
        MovingMarket y = row(0, 0, 1, 2, 3, 4, 5);
        MovingMarket z = row(0, 0, 1, 2, 3, 4, 5);
        int last = call(y, "lots", 12);
        for (int k = 1; k < 12; k++) {
            call(z, "lots", 1);
        }
        due(last, z, "lots", 1);
        due(call(y, "count", 6), z, "count", 6);
        for (int stall = 0; stall < 5; stall++) {
            due(call(y, "of", stall, 1), z, "of", stall, 1);
        }
    }

    static void p32PerhapsTheSame() {
        // From 1 on both rests by 3 are 2, from 0 on both are 0: nobody changes.
        MovingMarket x = row(0, 0, 7, 8, 9);
        due(709, x, "lots", 1);
        due(-1770082073, x, "count", 6);
        call(x, "seed", 0);
        due(709, x, "lots", 1);
        due(-740551042, x, "count", 6);
        due(8, x, "of", 1, 1);
    }

    static void p32OneStallAlone() {
        MovingMarket x = row(0, 0, 11);
        due(1111, x, "lots", 12);
        MovingMarket y = row(0, 0, 0);
        due(0, y, "lots", 1);
    }

    static void p32OfEight() {
        // From 1 on: 6 and 0.
        MovingMarket x = row(0, 0, 0, 1, 2, 3, 4, 5, 6, 11);
        due(611, x, "lots", 1);
        due(0, x, "of", 6, 1);
    }

    static void p32BeyondTooFewTooMany() {
        for (int n : new int[] {0, -1, 13, MIN, MAX}) {
            refused(BEYOND, of(3), "lots", n);
        }
    }

    static void p32StateThereIsNone() {
        refused(STATE, of(0), "lots", 1);
        refused(STATE, of(0), "lots", 12);
        holds("one is enough", call(market(1, 0), "lots", 1) >= 0);
    }

    static void p32BeyondIsToldBeforeState() {
        refused(BEYOND, of(0), "lots", 0);
        refused(BEYOND, of(0), "lots", 13);
    }

    static void p32AtTheLastHourToo() {
        due(505, row(999, 0, 5), "lots", 12);
    }

    // ---- 33: seed

    static void p33AnyInt() {
        MovingMarket x = new MovingMarket();
        due(1, x, "seed", MIN);
        due(MIN, x, "seed", MAX);
        due(MAX, x, "seed", 0);
        due(0, x, "seed", -1);
        due(-1, x, "seed", -1);
        due(-1, x, "count", 6);
        due(0, x, "status", -1);
    }
}
