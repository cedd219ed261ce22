/** Each sentence of the promises 1 to 14 that names a boundary case: at the bound, and on both sides of it. */
public final class CellRows2BoundsTest extends Checks {

    /** As an int each of them is 0, which is in range everywhere. */
    private static final long[] WRAPPED = {1L << 32, -(1L << 32), 1L << 62, Long.MIN_VALUE};

    public static void main(String[] args) {
        promise1();
        promise2Current();
        promise2Volt();
        promise2Warm();
        promise2NoCell();
        promise2NoCellBehindRanges();
        promise2Answers();
        promise3NoCell();
        promise4NoCell();
        promise5LowestTerms();
        promise5Sides();
        promise5BelowZero();
        promise5WithoutCapacity();
        promise6AtItsEnds();
        promise6TooFewSteps();
        promise6Faults();
        promise7NoCell();
        promise7Charge();
        promise7Voltage();
        promise7LeastVoltage();
        promise7EndsAlways();
        promise7HowMany();
        promise8NoLimit();
        promise8Outside();
        promise8Capacity();
        promise8FirstThatFits();
        promise9();
        promise9BelowZero();
        promise10();
        promise10Faults();
        promise11();
        promise12HowMany();
        promise12NoCycle();
        promise12NoSuchWhat();
        promise13();
        promise13GreatestOfAll();
        promise14();
        end("each sentence of the promises holds at its bounds");
    }

    private static void promise1() {
        sentence("So many cells (1 .. 24; 8 for any other number)");
        int[] asked = {0, 1, 2, 7, 8, 9, 23, 24, 25, -1, -8, 256, 1 << 16, Integer.MIN_VALUE, Integer.MAX_VALUE};
        int[] made = {8, 1, 2, 7, 8, 9, 23, 24, 8, 8, 8, 8, 8, 8, 8};
        for (int i = 0; i < asked.length; i++) {
            CellRows2 x = new CellRows2(asked[i]);
            due("the last one of " + asked[i], step(x, made[i] - 1, 0, 3600, 250), 0);
            due("one behind the last one of " + asked[i], step(x, made[i], 0, 3600, 250), THROWN);
            due("one before the first one of " + asked[i], step(x, -1, 0, 3600, 250), THROWN);
        }
    }

    private static void promise2Current() {
        sentence("-2 current not -100000 .. 100000");
        stepOf(-100001, 3600, 250, -2);
        stepOf(-100000, 3600, 250, 2);
        stepOf(-99999, 3600, 250, 2);
        stepOf(99999, 3600, 250, 2);
        stepOf(100000, 3600, 250, 2);
        stepOf(100001, 3600, 250, -2);
        stepOf(Long.MAX_VALUE, 3600, 250, -2);
        for (long wrapped : WRAPPED) {
            stepOf(wrapped, 3600, 250, -2);
        }
    }

    private static void promise2Volt() {
        sentence("volt not 0 .. 10000");
        stepOf(0, -1, 250, -2);
        stepOf(0, 0, 250, 1);
        stepOf(0, 1, 250, 1);
        stepOf(0, 9999, 250, 1);
        stepOf(0, 10000, 250, 1);
        stepOf(0, 10001, 250, -2);
        stepOf(0, Long.MAX_VALUE, 250, -2);
        for (long wrapped : WRAPPED) {
            stepOf(0, wrapped + 3600, 250, -2);
        }
    }

    private static void promise2Warm() {
        sentence("or warm not -1000 .. 2000");
        stepOf(0, 3600, -1001, -2);
        stepOf(0, 3600, -1000, 0);
        stepOf(0, 3600, -999, 0);
        stepOf(0, 3600, 1999, 1);
        stepOf(0, 3600, 2000, 1);
        stepOf(0, 3600, 2001, -2);
        stepOf(0, 3600, Long.MAX_VALUE, -2);
        for (long wrapped : WRAPPED) {
            stepOf(0, 3600, wrapped, -2);
        }
    }

    private static void stepOf(long current, long volt, long warm, long answer) {
        CellRows2 x = new CellRows2(2);
        due("step by " + current + ", " + volt + ", " + warm, step(x, 1, current, volt, warm), answer);
        due("the charge behind it", x.charge(1), answer == -2 ? 50000 : 50000 + current);
    }

    private static void promise2NoCell() {
        sentence("ArrayIndexOutOfBoundsException (behind -2) when there is no such cell");
        int[] counts = {1, 2, 8, 24};
        for (int count : counts) {
            CellRows2 x = new CellRows2(count);
            due("the first one of " + count, step(x, 0, 0, 3600, 250), 0);
            due("the last one of " + count, step(x, count - 1, 0, 3600, 250), 0);
            due("one behind the last one of " + count, step(x, count, 0, 3600, 250), THROWN);
            for (int cell : FAR_NUMBERS) {
                due("cell " + cell + " of " + count, step(x, cell, 0, 3600, 250), THROWN);
            }
        }
    }

    private static void promise2NoCellBehindRanges() {
        sentence("ArrayIndexOutOfBoundsException (behind -2)");
        CellRows2 x = new CellRows2(3);
        int[] unknown = {-1, 3};
        for (int cell : unknown) {
            due("current 100000", step(x, cell, 100000, 0, -1000), THROWN);
            due("current 100001", step(x, cell, 100001, 0, -1000), -2);
            due("current -100001", step(x, cell, -100001, 0, -1000), -2);
            due("volt 10000", step(x, cell, -100000, 10000, 2000), THROWN);
            due("volt 10001", step(x, cell, -100000, 10001, 2000), -2);
            due("volt -1", step(x, cell, -100000, -1, 2000), -2);
            due("warm 2001", step(x, cell, 0, 3600, 2001), -2);
            due("warm -1001", step(x, cell, 0, 3600, -1001), -2);
        }
    }

    private static void promise2Answers() {
        sentence("0, or 1 if the cell is BEYOND, 2 if there was a FAULT (1 or 2), BEYOND or not");
        CellRows2 x = new CellRows2(1);
        due("neither", step(x, 0, 5000, 4200, 600), 0);
        due("beyond", step(x, 0, 0, 4201, 600), 1);
        due("beyond with fault 1", step(x, 0, 0, 4201, 600), 2);
        due("beyond again, no fault", step(x, 0, 0, 4201, 600), 1);
        due("beyond with both faults", step(x, 0, 100000, 4201, 600), 2);
        due("beyond with fault 2", step(x, 0, 0, 4201, 600), 2);
        due("fault 2, not beyond", step(x, 0, 0, 4200, 600), 2);
        due("neither, behind them", step(new CellRows2(1), 0, 0, 4200, 600), 0);
        due("a fault of another kind is none of the step's", x.insulate(0), 0);
        x.limit(5, 1000000);
        due("neither, behind a fault of another kind", step(x, 0, 0, 3600, 250), 0);
    }

    private static void promise3NoCell() {
        sentence("A cell's CHARGE; 0 if there is none");
        CellRows2 x = new CellRows2(3);
        step(x, 2, 7, 3600, 250);
        step(x, 0, -7, 3600, 250);
        due("the first one", x.charge(0), 49993);
        due("one between", x.charge(1), 50000);
        due("the last one", x.charge(2), 50007);
        due("one behind the last", x.charge(3), 0);
        for (int cell : FAR_NUMBERS) {
            due("cell " + cell, x.charge(cell), 0);
        }
    }

    private static void promise4NoCell() {
        sentence("A cell's ESTIMATE; 0 if there is none");
        CellRows2 x = new CellRows2(3);
        step(x, 2, 0, 4200, 250);
        step(x, 0, 0, 3000, 250);
        due("the first one", x.share(0), 0.46875);
        due("one between", x.share(1), 0.5);
        due("the last one", x.share(2), 0.53125);
        due("one behind the last", x.share(3), 0.0);
        for (int cell : FAR_NUMBERS) {
            due("cell " + cell, x.share(cell), 0.0);
        }
    }

    private static void dueWhole(long charge, long capacity, long above, long below) {
        CellRows2 x = new CellRows2(2);
        step(x, 1, charge - 50000, 3600, 250);
        x.limit(5, capacity);
        due("the charge", x.charge(1), charge);
        due(charge + " / " + capacity + ", above", whole(x, 1, 0), above);
        due(charge + " / " + capacity + ", below", whole(x, 1, 1), below);
    }

    private static void promise5LowestTerms() {
        sentence("CHARGE / CAPACITY of a cell in lowest terms");
        dueWhole(50000, 100000, 1, 2);
        dueWhole(49999, 100000, 49999, 100000);
        dueWhole(1, 100000, 1, 100000);
        dueWhole(0, 100000, 0, 1);
        dueWhole(0, 1, 0, 1);
        dueWhole(99999, 100000, 99999, 100000);
        dueWhole(100000, 100000, 1, 1);
        dueWhole(100001, 100000, 100001, 100000);
        dueWhole(50000, 1, 50000, 1);
        dueWhole(50000, 25000, 2, 1);
        dueWhole(50000, 1000000, 1, 20);
        dueWhole(150000, 1000000, 3, 20);
        dueWhole(46368, 75025, 46368, 75025);
    }

    private static void promise5Sides() {
        sentence("side 0 what is above, others what is below");
        CellRows2 x = new CellRows2(1);
        step(x, 0, -20000, 3600, 250);
        due("side -1", whole(x, 0, -1), 10);
        due("side 0", whole(x, 0, 0), 3);
        due("side 1", whole(x, 0, 1), 10);
        due("side 2", whole(x, 0, 2), 10);
        due("the least side", whole(x, 0, Integer.MIN_VALUE), 10);
        due("the greatest side", whole(x, 0, Integer.MAX_VALUE), 10);
    }

    private static void promise5BelowZero() {
        sentence("(what is below above 0)");
        dueWhole(-1, 100000, -1, 100000);
        dueWhole(-50000, 100000, -1, 2);
        dueWhole(-50000, 1, -50000, 1);
        dueWhole(-24, 16, -3, 2);
        dueWhole(-7, 7, -1, 1);
    }

    private static void promise5WithoutCapacity() {
        sentence("ArithmeticException when the CAPACITY is 0; 0 if there is no cell (then nothing is thrown)");
        CellRows2 x = new CellRows2(2);
        step(x, 1, -50000, 3600, 250);
        int[] sides = {0, 1, -1};
        for (int side : sides) {
            x.limit(5, 1);
            due("capacity 1", whole(x, 0, side), side == 0 ? 50000 : 1);
            due("no cell, capacity 1", whole(x, 2, side), 0);
            x.limit(5, 0);
            due("capacity 0", whole(x, 0, side), THROWN);
            due("charge 0, capacity 0", whole(x, 1, side), THROWN);
            due("one behind the last, capacity 0", whole(x, 2, side), 0);
            for (int cell : FAR_NUMBERS) {
                due("cell " + cell + ", capacity 0", whole(x, cell, side), 0);
            }
        }
        due("no fault", x.fault(0), 0);
    }

    private static void promise6AtItsEnds() {
        sentence("One STAGE more, or all OPEN: the STAGE. -3 it is 3 already");
        CellRows2 x = new CellRows2(1);
        due("open at stage 0", x.contactor(false), 0);
        toPreCharge(x);
        steps(x, 3);
        due("stage 2 is not 3", x.contactor(true), 3);
        due("it is 3 already", x.contactor(true), -3);
        due("opening is not refused", x.contactor(false), 0);
        due("nor is it at stage 0", x.contactor(false), 0);
        due("stage 0 is not 3", x.contactor(true), 1);
    }

    private static void promise6TooFewSteps() {
        sentence("or 2 with less than 3 STEPS (for closing)");
        for (int count = 0; count < 3; count++) {
            CellRows2 x = new CellRows2(1);
            toPreCharge(x);
            steps(x, count);
            due("closing with " + count, x.contactor(true), -3);
            due("opening with " + count, x.contactor(false), 0);
            due("it is open", x.contactor(true), 1);
        }
        CellRows2 x = new CellRows2(1);
        due("stage 0 with no steps", x.contactor(true), 1);
        due("stage 1 with no steps", x.contactor(true), 2);
        steps(x, 2);
        due("2 steps", x.contactor(true), -3);
        steps(x, 1);
        due("3 steps", x.contactor(true), 3);
    }

    private static void promise6Faults() {
        sentence("A FAULT (3, 4) answers 0");
        CellRows2 slow = new CellRows2(1);
        toPreCharge(slow);
        steps(slow, 20);
        due("too slow", slow.contactor(true), 0);
        due("fault 3", slow.fault(0), 3);
        for (int stuck = 0; stuck < 2; stuck++) {
            CellRows2 x = new CellRows2(1);
            x.stuck(stuck);
            due("as far as it goes", x.contactor(true), stuck);
            due("stuck", stuck == 0 ? 0 : x.contactor(true), 0);
            due("fault 4", x.fault(0), 4);
        }
    }

    private static void promise7NoCell() {
        sentence("-1 there is none");
        CellRows2 x = new CellRows2(3);
        step(x, 2, 0, 3700, 250);
        due("the first one", x.bleed(0), -3);
        due("the last one", x.bleed(2), 1);
        due("one behind the last", x.bleed(3), -1);
        for (int cell : FAR_NUMBERS) {
            due("cell " + cell, x.bleed(cell), -1);
        }
        due("the last one, no more", x.bleed(2), 0);
    }

    private static void promise7Charge() {
        sentence("-3 it does not, and its CHARGE is less than LIMIT 4");
        long[] limits = {49999, 50000, 50001, -1000, 1000000};
        long[] answers = {1, 1, -3, 1, -3};
        for (int i = 0; i < limits.length; i++) {
            CellRows2 x = new CellRows2(2);
            x.limit(4, limits[i]);
            step(x, 1, 0, 3700, 250);
            due("charge 50000, limit " + limits[i], x.bleed(1), answers[i]);
        }
        long[] charges = {-1001, -1000, -999};
        long[] whether = {-3, 1, 1};
        for (int i = 0; i < charges.length; i++) {
            CellRows2 x = new CellRows2(2);
            x.limit(4, -1000);
            step(x, 1, charges[i] - 50000, 3700, 250);
            due("limit -1000, charge " + charges[i], x.bleed(1), whether[i]);
        }
        CellRows2 full = new CellRows2(2);
        full.limit(4, 1000000);
        for (int k = 0; k < 9; k++) {
            step(full, 1, 100000, 3700, 250);
        }
        step(full, 1, 49999, 3700, 250);
        due("limit 1000000, charge 999999", full.bleed(1), -3);
        step(full, 1, 1, 3700, 250);
        due("limit 1000000, charge 1000000", full.bleed(1), 1);
    }

    private static void promise7Voltage() {
        sentence("or its VOLTAGE not at least 10 above the least one of all cells");
        long[] above = {-1, 0, 1, 9, 10, 11};
        long[] answers = {-3, -3, -3, -3, 1, 1};
        for (int i = 0; i < above.length; i++) {
            CellRows2 x = new CellRows2(2);
            step(x, 0, 0, 3000, 250);
            step(x, 1, 0, 3000 + above[i], 250);
            due(above[i] + " above", x.bleed(1), answers[i]);
        }
        CellRows2 ends = new CellRows2(2);
        step(ends, 0, 0, 0, 250);
        step(ends, 1, 0, 10000, 250);
        due("the least voltage of all", ends.bleed(0), -3);
        due("the greatest voltage of all", ends.bleed(1), 1);
    }

    private static void promise7LeastVoltage() {
        sentence("the least one of all cells");
        for (int least = 0; least < 24; least++) {
            CellRows2 x = new CellRows2(24);
            for (int cell = 0; cell < 24; cell++) {
                step(x, cell, 0, cell == least ? 3490 : 3499, 250);
            }
            int asked = least == 7 ? 8 : 7;
            due("cell " + least + " is the least one, 9 above", x.bleed(asked), -3);
            step(x, asked, 0, 3500, 250);
            due("cell " + least + " is the least one, 10 above", x.bleed(asked), 1);
            step(x, least, 0, 3499, 250);
            due("cell " + least + " is it no more", x.bleed(least), -3);
        }
        CellRows2 alone = new CellRows2(1);
        step(alone, 0, 0, 10000, 250);
        due("a cell alone is its own least one", alone.bleed(0), -3);
    }

    private static void promise7EndsAlways() {
        sentence("otherwise no more .. -3 it does not, and");
        CellRows2 x = new CellRows2(2);
        step(x, 1, 0, 3610, 250);
        due("bleeds", x.bleed(1), 1);
        step(x, 1, 0, 3609, 250);
        due("ends with 9 above", x.bleed(1), 0);
        due("begins not with 9 above", x.bleed(1), -3);
        step(x, 1, 0, 3610, 250);
        due("bleeds again", x.bleed(1), 1);
        x.limit(4, 50000);
        due("ends with less than limit 4", x.bleed(1), 0);
        due("begins not with less than limit 4", x.bleed(1), -3);
        due("a refused one does not bleed", x.charge(1), 49995);
        step(x, 1, 0, 3610, 250);
        due("nor behind a step", x.charge(1), 49995);
    }

    private static void promise7HowMany() {
        sentence("A cell BLEEDS, if it did not, otherwise no more: how many do");
        CellRows2 x = new CellRows2(24);
        for (int cell = 1; cell < 24; cell++) {
            step(x, cell, 0, 3700, 250);
            due("one more", x.bleed(cell), cell);
        }
        due("all but the least one", x.bleed(0), -3);
        for (int cell = 1; cell < 24; cell++) {
            due("one less", x.bleed(cell), 23 - cell);
        }
    }

    private static void promise8NoLimit() {
        sentence("A LIMIT becomes v: 1. -1 there is none");
        CellRows2 x = new CellRows2(1);
        due("limit -1", x.limit(-1, 0), -1);
        due("limit 0", x.limit(0, 2800), 1);
        due("limit 5", x.limit(5, 100000), 1);
        due("limit 6", x.limit(6, 0), -1);
        for (int what : FAR_NUMBERS) {
            due("limit " + what, x.limit(what, 0), -1);
        }
        due("the capacity is as it was", whole(x, 0, 1), 2);
    }

    private static void promise8Outside() {
        sentence("-2 v is below -1000 or above 1000000");
        CellRows2 x = new CellRows2(1);
        for (int what = 0; what < 5; what++) {
            due("limit " + what + ", -1001", x.limit(what, -1001), -2);
            due("limit " + what + ", -1000", x.limit(what, -1000), 1);
            due("limit " + what + ", -999", x.limit(what, -999), 1);
            due("limit " + what + ", 999999", x.limit(what, 999999), 1);
            due("limit " + what + ", 1000000", x.limit(what, 1000000), 1);
            due("limit " + what + ", 1000001", x.limit(what, 1000001), -2);
            due("limit " + what + ", the greatest", x.limit(what, Long.MAX_VALUE), -2);
            for (long wrapped : WRAPPED) {
                due("limit " + what + ", " + wrapped, x.limit(what, wrapped + 5), -2);
            }
        }
    }

    private static void promise8Capacity() {
        sentence("for the CAPACITY below 0");
        CellRows2 x = new CellRows2(1);
        due("-1001", x.limit(5, -1001), -2);
        due("-1000", x.limit(5, -1000), -2);
        due("-1", x.limit(5, -1), -2);
        due("as it was", whole(x, 0, 1), 2);
        due("0", x.limit(5, 0), 1);
        due("it is 0", whole(x, 0, 1), THROWN);
        due("1", x.limit(5, 1), 1);
        due("it is 1", whole(x, 0, 0), 50000);
        due("1000001", x.limit(5, 1000001), -2);
        due("it is 1 still", whole(x, 0, 0), 50000);
        due("999999", x.limit(5, 999999), 1);
        due("it is 999999", whole(x, 0, 1), 999999);
        due("1000000", x.limit(5, 1000000), 1);
        due("it is 1000000", whole(x, 0, 1), 20);
        for (long wrapped : WRAPPED) {
            due("" + wrapped, x.limit(5, wrapped + 5), -2);
        }
        due("it is 1000000 still", whole(x, 0, 1), 20);
    }

    private static void promise8FirstThatFits() {
        sentence("REFUSALS change nothing and answer, the first that fits: -1 an unknown number, -2 outside a range");
        CellRows2 x = new CellRows2(1);
        long[] outside = {-1001, 1000001, Long.MIN_VALUE, Long.MAX_VALUE};
        for (long v : outside) {
            due("limit -1, " + v, x.limit(-1, v), -1);
            due("limit 0, " + v, x.limit(0, v), -2);
            due("limit 5, " + v, x.limit(5, v), -2);
            due("limit 6, " + v, x.limit(6, v), -1);
        }
    }

    private static void promise9() {
        sentence("The cell with the least CHARGE, of these the first one");
        CellRows2 x = new CellRows2(24);
        due("all alike", x.weakest(), 0);
        step(x, 0, 1, 3600, 250);
        due("all alike but the first one", x.weakest(), 1);
        step(x, 23, -1, 3600, 250);
        due("the last one is less by 1", x.weakest(), 23);
        step(x, 12, -1, 3600, 250);
        due("one before it is alike", x.weakest(), 12);
        step(x, 13, -1, 3600, 250);
        due("one behind it is alike", x.weakest(), 12);
        step(x, 12, 1, 3600, 250);
        due("it is more again", x.weakest(), 13);
        step(x, 0, -2, 3600, 250);
        due("the first one is alike", x.weakest(), 0);
        step(x, 23, -1, 3600, 250);
        due("the last one is less again", x.weakest(), 23);
        due("a cell alone", new CellRows2(1).weakest(), 0);
    }

    private static void promise9BelowZero() {
        sentence("The cell with the least CHARGE");
        CellRows2 x = new CellRows2(3);
        step(x, 0, -50000, 3600, 250);
        step(x, 1, -50001, 3600, 250);
        due("-1 is less than 0", x.weakest(), 1);
        step(x, 2, -50002, 3600, 250);
        due("-2 is less than -1", x.weakest(), 2);
        CellRows2 full = new CellRows2(2);
        for (int k = 0; k < 255; k++) {
            step(full, 0, 100000, 3600, 250);
            step(full, 1, 100000 - k / 254, 3600, 250);
        }
        due("less by 1 of very much", full.weakest(), 1);
    }

    private static void promise10() {
        sentence("The insulation is v: 1, or 0 if it is below 100: then that is a FAULT (5). -2 it is below 0");
        long[] given = {-1, 0, 1, 99, 100, 101, 1L << 32, Long.MAX_VALUE, Long.MIN_VALUE, -(1L << 32) + 100};
        long[] answers = {-2, 0, 0, 0, 1, 1, 1, 1, -2, -2};
        for (int i = 0; i < given.length; i++) {
            CellRows2 x = new CellRows2(1);
            due("insulation " + given[i], x.insulate(given[i]), answers[i]);
            due("insulation " + given[i] + ", fault", x.fault(0), answers[i] == 0 ? 5 : 0);
            due("insulation " + given[i] + ", no other", x.fault(1), 0);
        }
    }

    private static void promise10Faults() {
        sentence("then that is a FAULT (5)");
        CellRows2 x = new CellRows2(1);
        for (int count = 1; count <= 250; count++) {
            due("insulation 99", x.insulate(99), 0);
            due("a fault each time", x.fault(count - 1), 5);
        }
        due("no other", x.fault(250), 0);
    }

    private static void promise11() {
        sentence("A contactor is STUCK, or, if it was, no more: 1 or 0. -1 there is none");
        CellRows2 x = new CellRows2(1);
        for (int contactor = 0; contactor < 3; contactor++) {
            for (int time = 1; time <= 5; time++) {
                due("contactor " + contactor + ", time " + time, x.stuck(contactor), time % 2);
            }
        }
        due("one behind the last", x.stuck(3), -1);
        for (int contactor : FAR_NUMBERS) {
            due("contactor " + contactor, x.stuck(contactor), -1);
        }
        for (int contactor = 0; contactor < 3; contactor++) {
            due("each by itself", x.stuck(contactor), 0);
        }
        due("no fault", x.fault(0), 0);
    }

    private static CellRows2 withCycles(int count) {
        CellRows2 x = new CellRows2(1);
        currents(x, 1000);
        for (int k = 0; k < count; k++) {
            currents(x, -40 - k, 40 + k);
        }
        return x;
    }

    private static void promise12HowMany() {
        sentence("i = -1 with what = 0: how many there were");
        for (int count = 0; count <= 3; count++) {
            CellRows2 x = withCycles(count);
            due("how many of " + count, x.cycle(-1, 0), count);
            due("i -1 with what 1, of " + count, x.cycle(-1, 1), -1);
            due("i -1 with what -1, of " + count, x.cycle(-1, -1), -1);
            due("i -1 with what 2, of " + count, x.cycle(-1, 2), -1);
            due("i -2 with what 0, of " + count, x.cycle(-2, 0), -1);
        }
    }

    private static void promise12NoCycle() {
        sentence("The i-th (from 0) AGEING cycle: what = 0 its range, 1 its less one .. -1 there is none");
        for (int count = 0; count <= 3; count++) {
            CellRows2 x = withCycles(count);
            for (int i = 0; i < count; i++) {
                due("range of cycle " + i, x.cycle(i, 0), 40 + i);
                due("less one of cycle " + i, x.cycle(i, 1), 51000 - 40 - i);
            }
            for (int what = -1; what <= 2; what++) {
                due("one behind the last of " + count + ", what " + what, x.cycle(count, what), -1);
                due("i -2, what " + what, x.cycle(-2, what), -1);
                due("the least i, what " + what, x.cycle(Integer.MIN_VALUE, what), -1);
                due("the greatest i, what " + what, x.cycle(Integer.MAX_VALUE, what), -1);
            }
        }
    }

    private static void promise12NoSuchWhat() {
        sentence("-2 no such what");
        CellRows2 x = withCycles(2);
        int[] unknown = {-1, 2, 3, Integer.MIN_VALUE, Integer.MAX_VALUE};
        for (int what : unknown) {
            due("the first one, what " + what, x.cycle(0, what), -2);
            due("the last one, what " + what, x.cycle(1, what), -2);
            due("none, what " + what, x.cycle(2, what), -1);
            due("none before the first one, what " + what, x.cycle(-1, what), -1);
        }
    }

    private static void promise13() {
        sentence("0, or 1, 2, 3 if the greatest WARMTH of a cell is above 350, 450, 550");
        long[] warm = {-1000, 0, 349, 350, 351, 449, 450, 451, 549, 550, 551, 600, 601, 2000};
        int[] answers = {0, 0, 0, 0, 1, 1, 1, 2, 2, 2, 3, 3, 3, 3};
        CellRows2 x = new CellRows2(1);
        for (int i = 0; i < warm.length; i++) {
            step(x, 0, 0, 3600, warm[i]);
            due("warmth " + warm[i], x.cool(), answers[i]);
        }
        CellRows2 limited = new CellRows2(1);
        limited.limit(2, 300);
        step(limited, 0, 0, 3600, 350);
        due("warmth 350, beyond its limit", limited.cool(), 0);
    }

    private static void promise13GreatestOfAll() {
        sentence("if the greatest WARMTH of a cell is above");
        for (int cell = 0; cell < 24; cell++) {
            CellRows2 x = new CellRows2(24);
            step(x, cell, 0, 3600, 551);
            due("cell " + cell, x.cool(), 3);
            step(x, (cell + 1) % 24, 0, 3600, 451);
            due("cell " + cell + ", with a less warm one", x.cool(), 3);
            step(x, cell, 0, 3600, -1000);
            due("the less warm one is left", x.cool(), 2);
        }
        CellRows2 cold = new CellRows2(2);
        step(cold, 0, 0, 3600, -1000);
        step(cold, 1, 0, 3600, -1000);
        due("all cold", cold.cool(), 0);
    }

    private static void promise14() {
        sentence("The i-th (from 0) FAULT: 1 to 5; 0 if there is none");
        CellRows2 x = new CellRows2(1);
        due("of none the first one", x.fault(0), 0);
        x.insulate(0);
        due("the first one", x.fault(0), 5);
        due("one behind the last", x.fault(1), 0);
        x.stuck(0);
        x.contactor(true);
        due("the second one", x.fault(1), 4);
        due("one behind the last", x.fault(2), 0);
        due("the first one is as it was", x.fault(0), 5);
        for (int i : FAR_NUMBERS) {
            due("fault " + i, x.fault(i), 0);
        }
    }
}
