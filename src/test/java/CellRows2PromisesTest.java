/** For each promise of the document: ordinary inputs, the edges that it names, and wrong inputs. */
public final class CellRows2PromisesTest extends Checks {

    public static void main(String[] args) {
        promise1NewObject();
        promise2Ranges();
        promise2NoSuchCell();
        promise2RefusalsChangeNothing();
        promise2Beyond();
        promise2BeyondInRow();
        promise2ChargeFault();
        promise2BothFaults();
        promise3Charge();
        promise4Share();
        promise4ShareWithin();
        promise5Whole();
        promise5WholeWithoutCapacity();
        promise6Stages();
        promise6StepsOfPreCharge();
        promise6TooSlow();
        promise6Stuck();
        promise7Bleed();
        promise7BleedEdges();
        promise8Ranges();
        promise8LimitsHold();
        promise9Weakest();
        promise10Insulate();
        promise11Stuck();
        promise12Cycles();
        promise12TurningPoints();
        promise12WrongNumbers();
        promise12OnlyCellZero();
        promise12ManyCycles();
        promise12FiveHundredPoints();
        promise12TheFiveHundredth();
        promise13Cool();
        promise14Fault();
        end("all promises hold");
    }

    private static void promise1NewObject() {
        int[] asked = {1, 2, 8, 23, 24, 0, 25, -1, Integer.MIN_VALUE, Integer.MAX_VALUE};
        int[] made = {1, 2, 8, 23, 24, 8, 8, 8, 8, 8};
        for (int i = 0; i < asked.length; i++) {
            CellRows2 x = new CellRows2(asked[i]);
            due("1: last of " + asked[i] + " cells", x.charge(made[i] - 1), 50000);
            due("1: behind the last of " + asked[i] + " cells", x.charge(made[i]), 0);
            due("1: first estimate", x.share(made[i] - 1), 0.5);
        }
        CellRows2 x = new CellRows2(3);
        due("1: capacity, above", x.whole(0, 0), 1);
        due("1: capacity, below", x.whole(0, 1), 2);
        due("1: faults", x.fault(0), 0);
        due("1: cycles", x.cycle(-1, 0), 0);
        due("1: cooling", x.cool(), 0);
        due("1: weakest", x.weakest(), 0);
        due("1: nothing is stuck, all is open", x.contactor(true), 1);
        due("1: nothing bleeds", x.bleed(0), -3);
    }

    private static void promise2Ranges() {
        long[] currents = {-100001, 100001, Long.MIN_VALUE, Long.MAX_VALUE};
        for (long current : currents) {
            due("2: current " + current, step(new CellRows2(1), 0, current, 3600, 250), -2);
        }
        long[] volts = {-1, 10001, Long.MIN_VALUE, Long.MAX_VALUE};
        for (long volt : volts) {
            due("2: volt " + volt, step(new CellRows2(1), 0, 0, volt, 250), -2);
        }
        long[] warms = {-1001, 2001, Long.MIN_VALUE, Long.MAX_VALUE};
        for (long warm : warms) {
            due("2: warm " + warm, step(new CellRows2(1), 0, 0, 3600, warm), -2);
        }
        due("2: greatest current", step(new CellRows2(1), 0, 100000, 3600, 250), 2);
        due("2: least current", step(new CellRows2(1), 0, -100000, 3600, 250), 2);
        due("2: least volt", step(new CellRows2(1), 0, 0, 0, 250), 1);
        due("2: greatest volt", step(new CellRows2(1), 0, 0, 10000, 250), 1);
        due("2: least warm", step(new CellRows2(1), 0, 0, 3600, -1000), 0);
        due("2: greatest warm", step(new CellRows2(1), 0, 0, 3600, 2000), 1);
    }

    private static void promise2NoSuchCell() {
        CellRows2 x = new CellRows2(3);
        int[] unknown = {3, -1, 24, Integer.MIN_VALUE, Integer.MAX_VALUE};
        for (int cell : unknown) {
            due("2: cell " + cell, step(x, cell, 0, 3600, 250), THROWN);
            due("2: cell " + cell + ", wrong current", step(x, cell, 100001, 3600, 250), -2);
            due("2: cell " + cell + ", wrong volt", step(x, cell, 0, -1, 250), -2);
            due("2: cell " + cell + ", wrong warm", step(x, cell, 0, 3600, 2001), -2);
        }
        due("2: last cell", step(x, 2, 0, 3600, 250), 0);
    }

    private static void promise2RefusalsChangeNothing() {
        CellRows2 x = new CellRows2(2);
        toPreCharge(x);
        due("2: beyond once", step(x, 0, 100, 4300, 650), 1);
        double share = x.share(0);
        due("2: refused", step(x, 0, 100, 3600, 2001), -2);
        due("2: refused", step(x, 0, 100001, 3600, 250), -2);
        due("2: thrown", step(x, 2, 100, 3600, 250), THROWN);
        due("2: charge stays", x.charge(0), 50100);
        due("2: estimate stays", x.share(0), share);
        due("2: warmth stays", x.cool(), 3);
        due("2: they are no steps", x.contactor(true), -3);
        due("2: they are not in the row", step(x, 0, 0, 4300, 650), 2);
        due("2: one fault", x.fault(0), 1);
        due("2: no other", x.fault(1), 0);
    }

    private static void promise2Beyond() {
        due("2: volt 2800", step(new CellRows2(1), 0, 0, 2800, 250), 0);
        due("2: volt 2799", step(new CellRows2(1), 0, 0, 2799, 250), 1);
        due("2: volt 4200", step(new CellRows2(1), 0, 0, 4200, 250), 0);
        due("2: volt 4201", step(new CellRows2(1), 0, 0, 4201, 250), 1);
        due("2: warm 600", step(new CellRows2(1), 0, 0, 3600, 600), 0);
        due("2: warm 601", step(new CellRows2(1), 0, 0, 3600, 601), 1);
        due("2: current 5000", step(new CellRows2(1), 0, 5000, 3600, 250), 0);
        due("2: current 5001", step(new CellRows2(1), 0, 5001, 3600, 250), 1);
        due("2: current -5000", step(new CellRows2(1), 0, -5000, 3600, 250), 0);
        due("2: current -5001", step(new CellRows2(1), 0, -5001, 3600, 250), 1);
    }

    private static void promise2BeyondInRow() {
        CellRows2 x = new CellRows2(2);
        int[] answers = {1, 2, 1, 2, 1, 2, 1};
        for (int i = 0; i < answers.length; i++) {
            due("2: beyond in a row, step " + i, step(x, 0, 0, 2700, 250), answers[i]);
        }
        due("2: three faults", x.fault(2), 1);
        due("2: no fourth", x.fault(3), 0);
        due("2: within again", step(x, 0, 0, 3600, 250), 0);
        due("2: a new row", step(x, 0, 0, 2700, 250), 1);
        due("2: another cell has its own row", step(x, 1, 0, 2700, 250), 1);
        due("2: another cell within", step(x, 1, 0, 3600, 250), 0);
        due("2: does not end the first one's row", step(x, 0, 0, 3600, 601), 2);
    }

    private static void promise2ChargeFault() {
        CellRows2 x = new CellRows2(2);
        x.limit(3, 1000000);
        due("2: charge 0", step(x, 0, -50000, 3600, 250), 0);
        toPreCharge(x);
        due("2: charge -1", step(x, 0, -1, 3600, 250), 2);
        due("2: all is open", x.contactor(true), 1);
        due("2: charge still below", step(x, 0, 0, 3600, 250), 2);
        due("2: all is open again", x.contactor(true), 1);
        due("2: charge of the capacity", step(x, 1, 50000, 3600, 250), 0);
        due("2: charge above the capacity", step(x, 1, 1, 3600, 250), 2);
        for (int i = 0; i < 3; i++) {
            due("2: fault " + i, x.fault(i), 2);
        }
        due("2: no other fault", x.fault(3), 0);
    }

    private static void promise2BothFaults() {
        CellRows2 x = new CellRows2(1);
        due("2: beyond and above", step(x, 0, 60000, 3600, 250), 2);
        due("2: the second time", step(x, 0, 60000, 3600, 250), 2);
        due("2: fault of the charge", x.fault(0), 2);
        due("2: beyond first", x.fault(1), 1);
        due("2: charge behind it", x.fault(2), 2);
        due("2: that was all", x.fault(3), 0);
    }

    private static void promise3Charge() {
        CellRows2 x = new CellRows2(2);
        step(x, 1, 4000, 3700, 250);
        due("3: current is added", x.charge(1), 54000);
        due("3: the other stays", x.charge(0), 50000);
        due("3: bleeds", x.bleed(1), 1);
        step(x, 1, -100, 3700, 250);
        due("3: 5 less", x.charge(1), 53895);
        due("3: the bled off is seen at once", step(x, 1, -53891, 3600, 250), 2);
        due("3: below 0", x.charge(1), -1);
        due("3: bleeds no more", x.bleed(1), 0);
        step(x, 1, 1, 3600, 250);
        due("3: nothing bled", x.charge(1), 0);
        int[] unknown = {2, -1, Integer.MIN_VALUE, Integer.MAX_VALUE};
        for (int cell : unknown) {
            due("3: cell " + cell, x.charge(cell), 0);
        }
    }

    private static void promise4Share() {
        CellRows2 x = new CellRows2(2);
        step(x, 0, 500, 3700, 250);
        double first = 0.5 + 500.0 / 100000.0;
        first = first + 0.0625 * (700.0 / 1200.0 - first);
        due("4: one step", x.share(0), first);
        due("4: the other stays", x.share(1), 0.5);
        step(x, 0, -1234, 3333, 250);
        double second = first + -1234.0 / 100000.0;
        second = second + 0.0625 * (333.0 / 1200.0 - second);
        due("4: two steps", x.share(0), second);
        due("4: bleeds", x.bleed(0), -3);
        step(x, 0, 0, 3610, 250);
        double third = second + 0.0625 * (610.0 / 1200.0 - second);
        due("4: bleeds", x.bleed(0), 1);
        step(x, 0, 7, 3900, 250);
        double fourth = third + 7.0 / 100000.0;
        fourth = fourth + 0.0625 * (900.0 / 1200.0 - fourth);
        due("4: what bleeds is not in it", x.share(0), fourth);
        x.limit(5, 3);
        step(x, 0, 1, 3900, 250);
        double fifth = fourth + 1.0 / 3.0;
        fifth = fifth > 1 ? 1 : fifth;
        fifth = fifth + 0.0625 * (900.0 / 1200.0 - fifth);
        due("4: another capacity", x.share(0), fifth);
        int[] unknown = {2, -1, Integer.MIN_VALUE, Integer.MAX_VALUE};
        for (int cell : unknown) {
            due("4: cell " + cell, x.share(cell), 0.0);
        }
    }

    private static void promise4ShareWithin() {
        CellRows2 x = new CellRows2(1);
        step(x, 0, -100000, 3600, 250);
        due("4: p not below 0", x.share(0), 0.0625 * 0.5);
        step(x, 0, 100000, 3600, 250);
        due("4: p not above 1", x.share(0), 1.0 + 0.0625 * (0.5 - 1.0));
        CellRows2 low = new CellRows2(1);
        step(low, 0, 0, 2000, 250);
        due("4: t not below 0", low.share(0), 0.5 + 0.0625 * (0.0 - 0.5));
        CellRows2 high = new CellRows2(1);
        step(high, 0, 0, 9000, 250);
        due("4: t not above 1", high.share(0), 0.5 + 0.0625 * (1.0 - 0.5));
        CellRows2 none = new CellRows2(1);
        none.limit(5, 0);
        step(none, 0, 5000, 4200, 250);
        due("4: no capacity", none.share(0), 0.5 + 0.0625 * (1.0 - 0.5));
    }

    private static void promise5Whole() {
        CellRows2 x = new CellRows2(2);
        step(x, 0, -2000, 3600, 250);
        due("5: above", whole(x, 0, 0), 12);
        due("5: below", whole(x, 0, 1), 25);
        due("5: other side", whole(x, 0, -1), 25);
        due("5: other side", whole(x, 0, 2), 25);
        due("5: other side", whole(x, 0, Integer.MIN_VALUE), 25);
        due("5: another cell", whole(x, 1, 1), 2);
        step(x, 0, -48000, 3600, 250);
        due("5: nothing above", whole(x, 0, 0), 0);
        due("5: nothing above, below", whole(x, 0, 1), 1);
        step(x, 0, -24, 3600, 250);
        due("5: less than 0", whole(x, 0, 0), -3);
        due("5: less than 0, below", whole(x, 0, 1), 12500);
        x.limit(5, 1);
        due("5: capacity 1", whole(x, 0, 0), -24);
        due("5: capacity 1, below", whole(x, 0, 1), 1);
        x.limit(5, 99991);
        due("5: nothing in common", whole(x, 1, 0), 50000);
        due("5: nothing in common, below", whole(x, 1, 1), 99991);
        due("5: no cell", whole(x, 2, 0), 0);
        due("5: no cell, below", whole(x, -1, 1), 0);
    }

    private static void promise5WholeWithoutCapacity() {
        CellRows2 x = new CellRows2(2);
        x.limit(5, 0);
        due("5: no capacity", whole(x, 0, 0), THROWN);
        due("5: no capacity, below", whole(x, 1, 1), THROWN);
        due("5: no cell, no capacity", whole(x, 2, 0), 0);
        due("5: no cell, no capacity", whole(x, -1, 1), 0);
        due("5: no cell, no capacity", whole(x, Integer.MIN_VALUE, 1), 0);
        due("5: no cell, no capacity", whole(x, Integer.MAX_VALUE, 0), 0);
        x.limit(5, 40000);
        due("5: capacity again", whole(x, 0, 0), 5);
        due("5: no fault", x.fault(0), 0);
    }

    private static void promise6Stages() {
        CellRows2 x = new CellRows2(2);
        due("6: open what is open", x.contactor(false), 0);
        due("6: the first one", x.contactor(true), 1);
        due("6: open", x.contactor(false), 0);
        toPreCharge(x);
        due("6: too early", x.contactor(true), -3);
        due("6: open in the pre-charge", x.contactor(false), 0);
        toPreCharge(x);
        steps(x, 3);
        due("6: all", x.contactor(true), 3);
        due("6: it is 3 already", x.contactor(true), -3);
        steps(x, 25);
        due("6: it is 3 still", x.contactor(true), -3);
        due("6: open all", x.contactor(false), 0);
        due("6: anew", x.contactor(true), 1);
        due("6: no fault", x.fault(0), 0);
    }

    private static void promise6StepsOfPreCharge() {
        CellRows2 x = new CellRows2(2);
        steps(x, 5);
        due("6: the first one", x.contactor(true), 1);
        steps(x, 5);
        due("6: the second one", x.contactor(true), 2);
        due("6: earlier steps do not count", x.contactor(true), -3);
        step(x, 0, 0, 3600, 250);
        step(x, 1, 0, 3600, 250);
        due("6: two steps", x.contactor(true), -3);
        step(x, 1, 0, 3600, 250);
        due("6: steps of any cell", x.contactor(true), 3);
        CellRows2 late = new CellRows2(1);
        toPreCharge(late);
        steps(late, 19);
        due("6: 19 steps", late.contactor(true), 3);
        late.contactor(false);
        toPreCharge(late);
        due("6: counted anew", late.contactor(true), -3);
    }

    private static void promise6TooSlow() {
        CellRows2 x = new CellRows2(1);
        toPreCharge(x);
        steps(x, 20);
        due("6: 20 steps", x.contactor(true), 0);
        due("6: a fault", x.fault(0), 3);
        due("6: all is open", x.contactor(true), 1);
        due("6: the second one", x.contactor(true), 2);
        due("6: counted anew", x.contactor(true), -3);
        steps(x, 40);
        x.stuck(2);
        due("6: too slow and stuck", x.contactor(true), 0);
        due("6: too slow alone", x.fault(1), 3);
        due("6: no other", x.fault(2), 0);
    }

    private static void promise6Stuck() {
        for (int number = 0; number < 3; number++) {
            CellRows2 x = new CellRows2(1);
            x.stuck(number);
            for (int stage = 1; stage <= number; stage++) {
                due("6: before the stuck one", x.contactor(true), stage);
            }
            if (number == 2) {
                due("6: too early, stuck or not", x.contactor(true), -3);
                steps(x, 3);
            }
            due("6: stuck " + number, x.contactor(true), 0);
            due("6: a fault", x.fault(0), 4);
            due("6: no other", x.fault(1), 0);
            due("6: open what is stuck", x.contactor(false), 0);
            x.stuck(number);
            due("6: stuck no more", x.contactor(true), 1);
        }
        CellRows2 closed = new CellRows2(1);
        closed.contactor(true);
        closed.stuck(0);
        due("6: one that is closed already", closed.contactor(true), 2);
    }

    private static void promise7Bleed() {
        CellRows2 x = new CellRows2(3);
        step(x, 1, 0, 3700, 250);
        step(x, 2, 0, 3650, 250);
        due("7: one", x.bleed(1), 1);
        due("7: two", x.bleed(2), 2);
        due("7: the least one", x.bleed(0), -3);
        due("7: one no more", x.bleed(1), 1);
        due("7: again", x.bleed(1), 2);
        step(x, 1, 0, 3500, 250);
        due("7: to end it no voltage is asked", x.bleed(1), 1);
        due("7: to begin it is", x.bleed(1), -3);
        x.limit(4, 1000000);
        due("7: to end it no charge is asked", x.bleed(2), 0);
        due("7: to begin it is", x.bleed(2), -3);
        int[] unknown = {3, -1, Integer.MIN_VALUE, Integer.MAX_VALUE};
        for (int cell : unknown) {
            due("7: cell " + cell, x.bleed(cell), -1);
        }
    }

    private static void promise7BleedEdges() {
        CellRows2 x = new CellRows2(2);
        step(x, 0, 0, 3609, 250);
        due("7: 9 above", x.bleed(0), -3);
        step(x, 0, 0, 3610, 250);
        due("7: 10 above", x.bleed(0), 1);
        CellRows2 poor = new CellRows2(2);
        poor.limit(3, 1000000);
        step(poor, 1, -49001, 3700, 250);
        due("7: charge 999", poor.bleed(1), -3);
        step(poor, 1, 1, 3700, 250);
        due("7: charge 1000", poor.bleed(1), 1);
        CellRows2 alone = new CellRows2(1);
        step(alone, 0, 0, 4200, 250);
        due("7: a cell alone", alone.bleed(0), -3);
    }

    private static void promise8Ranges() {
        CellRows2 x = new CellRows2(1);
        int[] unknown = {-1, 6, Integer.MIN_VALUE, Integer.MAX_VALUE};
        for (int what : unknown) {
            due("8: limit " + what, x.limit(what, 5), -1);
            due("8: limit " + what + ", wrong value", x.limit(what, -1001), -1);
        }
        for (int what = 0; what < 5; what++) {
            due("8: least", x.limit(what, -1000), 1);
            due("8: greatest", x.limit(what, 1000000), 1);
        }
        due("8: least capacity", x.limit(5, 0), 1);
        due("8: capacity", x.limit(5, -1), -2);
        due("8: greatest capacity", x.limit(5, 1000000), 1);
        long[] outside = {-1001, 1000001, Long.MIN_VALUE, Long.MAX_VALUE};
        for (long v : outside) {
            for (int what = 0; what < 6; what++) {
                due("8: limit " + what + " of " + v, x.limit(what, v), -2);
            }
        }
        due("8: refusals change nothing", whole(x, 0, 1), 20);
    }

    private static void promise8LimitsHold() {
        CellRows2 x = new CellRows2(2);
        x.limit(0, 3000);
        due("8: least voltage", step(x, 0, 0, 2999, 250), 1);
        due("8: least voltage", step(x, 0, 0, 3000, 250), 0);
        x.limit(1, 3500);
        due("8: greatest voltage", step(x, 0, 0, 3501, 250), 1);
        due("8: greatest voltage", step(x, 0, 0, 3500, 250), 0);
        x.limit(2, -5);
        due("8: greatest warmth", step(x, 0, 0, 3500, -4), 1);
        due("8: greatest warmth", step(x, 0, 0, 3500, -5), 0);
        x.limit(3, 10);
        due("8: greatest current", step(x, 0, -11, 3500, -5), 1);
        due("8: greatest current", step(x, 0, -10, 3500, -5), 0);
        x.limit(3, -1);
        due("8: no current at all", step(x, 0, 0, 3500, -5), 1);
        x.limit(4, 50001);
        due("8: least charge to bleed", x.bleed(1), -3);
        x.limit(4, 50000);
        due("8: least charge to bleed", x.bleed(1), 1);
        CellRows2 small = new CellRows2(1);
        due("8: capacity", small.limit(5, 50000), 1);
        due("8: a limit is no step", small.fault(0), 0);
        due("8: capacity", step(small, 0, 0, 3600, 250), 0);
        small.limit(5, 49999);
        due("8: capacity", step(small, 0, 0, 3600, 250), 2);
    }

    private static void promise9Weakest() {
        CellRows2 x = new CellRows2(4);
        due("9: all alike", x.weakest(), 0);
        step(x, 2, -10, 3600, 250);
        due("9: one", x.weakest(), 2);
        step(x, 3, -10, 3600, 250);
        due("9: the first one of two", x.weakest(), 2);
        step(x, 3, -1, 3600, 250);
        due("9: the last one", x.weakest(), 3);
        step(x, 0, -100, 3600, 250);
        due("9: the first one", x.weakest(), 0);
        CellRows2 low = new CellRows2(2);
        step(low, 1, -60000, 3600, 250);
        due("9: below 0", low.weakest(), 1);
        due("9: alone", new CellRows2(1).weakest(), 0);
    }

    private static void promise10Insulate() {
        CellRows2 x = new CellRows2(1);
        toPreCharge(x);
        due("10: 100", x.insulate(100), 1);
        due("10: much", x.insulate(Long.MAX_VALUE), 1);
        due("10: below 0", x.insulate(-1), -2);
        due("10: far below 0", x.insulate(Long.MIN_VALUE), -2);
        due("10: no fault so far", x.fault(0), 0);
        due("10: all as it was", x.contactor(true), -3);
        due("10: 99", x.insulate(99), 0);
        due("10: a fault", x.fault(0), 5);
        due("10: all is open", x.contactor(true), 1);
        due("10: 0", x.insulate(0), 0);
        due("10: a fault each time", x.fault(1), 5);
        due("10: all is open again", x.contactor(true), 1);
        due("10: no other fault", x.fault(2), 0);
    }

    private static void promise11Stuck() {
        CellRows2 x = new CellRows2(1);
        for (int number = 0; number < 3; number++) {
            due("11: stuck " + number, x.stuck(number), 1);
        }
        for (int number = 0; number < 3; number++) {
            due("11: no more " + number, x.stuck(number), 0);
        }
        due("11: again", x.stuck(1), 1);
        int[] unknown = {3, -1, Integer.MIN_VALUE, Integer.MAX_VALUE};
        for (int number : unknown) {
            due("11: contactor " + number, x.stuck(number), -1);
        }
        due("11: no fault by itself", x.fault(0), 0);
        due("11: stays closed", x.contactor(true), 1);
    }

    private static void promise12Cycles() {
        CellRows2 x = new CellRows2(1);
        currents(x, 100, -40, 30);
        due("12: not yet", x.cycle(-1, 0), 0);
        currents(x, 10);
        due("12: the last point counts as it stands", x.cycle(-1, 0), 1);
        due("12: range", x.cycle(0, 0), 40);
        due("12: less one", x.cycle(0, 1), 50060);
        CellRows2 down = new CellRows2(1);
        currents(down, -100, 40, -40);
        due("12: as much as both", down.cycle(-1, 0), 1);
        due("12: range downwards", down.cycle(0, 0), 40);
        due("12: less one downwards", down.cycle(0, 1), 49900);
        CellRows2 both = new CellRows2(1);
        currents(both, 100, -60, 50, -30, 20);
        due("12: none of the small ones", both.cycle(-1, 0), 0);
        currents(both, 100);
        due("12: then again", both.cycle(-1, 0), 2);
        due("12: the inner one first", both.cycle(0, 0), 30);
        due("12: its less one", both.cycle(0, 1), 50060);
        due("12: the outer one", both.cycle(1, 0), 60);
        due("12: its less one", both.cycle(1, 1), 50040);
        CellRows2 first = new CellRows2(1);
        currents(first, 40, -50, 60);
        due("12: b to c more than a to b", first.cycle(-1, 0), 0);
        CellRows2 low = new CellRows2(1);
        low.limit(3, 1000000);
        currents(low, -50100, 40, -50);
        due("12: below 0", low.cycle(0, 1), -100);
    }

    private static void promise12TurningPoints() {
        CellRows2 x = new CellRows2(1);
        currents(x, 0, 60, 0, 40, -10, 0, -30, 0, 15, 0, 15, 5, 0);
        due("12: points that go on are no turns", x.cycle(-1, 0), 0);
        currents(x, 5);
        due("12: goes on, or is the same", x.cycle(-1, 0), 1);
        due("12: from the turning point", x.cycle(0, 0), 40);
        due("12: to the turning point", x.cycle(0, 1), 50060);
        CellRows2 beginning = new CellRows2(1);
        currents(beginning, 0, 0, 50, -50, 50);
        due("12: the first one's charge before it is a point", beginning.cycle(-1, 0), 1);
        due("12: and is kept", beginning.cycle(0, 1), 50000);
        CellRows2 bleeding = new CellRows2(2);
        step(bleeding, 0, 100, 3700, 250);
        bleeding.bleed(0);
        for (int i = 0; i < 4; i++) {
            step(bleeding, 0, 0, 3700, 250);
        }
        step(bleeding, 0, 25, 3700, 250);
        due("12: what bled makes points", bleeding.cycle(-1, 0), 1);
        due("12: what bled is a range", bleeding.cycle(0, 0), 20);
        due("12: refused steps make no points", step(bleeding, 0, -60, 3700, 9999), -2);
        due("12: refused steps make no points", bleeding.cycle(-1, 0), 1);
    }

    private static void promise12WrongNumbers() {
        CellRows2 x = new CellRows2(1);
        due("12: none yet", x.cycle(0, 0), -1);
        due("12: none yet, no such what", x.cycle(0, 2), -1);
        currents(x, 100, -40, 40);
        due("12: no such what", x.cycle(0, 2), -2);
        due("12: no such what", x.cycle(0, -1), -2);
        due("12: no such what", x.cycle(0, Integer.MIN_VALUE), -2);
        due("12: behind the last", x.cycle(1, 0), -1);
        due("12: behind the last", x.cycle(1, 2), -1);
        due("12: far behind the last", x.cycle(Integer.MAX_VALUE, 1), -1);
        due("12: i -1 with what 1", x.cycle(-1, 1), -1);
        due("12: i -1 with no such what", x.cycle(-1, 2), -1);
        due("12: i -2", x.cycle(-2, 0), -1);
        due("12: far below", x.cycle(Integer.MIN_VALUE, 0), -1);
        due("12: how many", x.cycle(-1, 0), 1);
    }

    private static void promise12OnlyCellZero() {
        CellRows2 x = new CellRows2(2);
        long[] given = {100, -40, 40, -40, 40};
        for (long current : given) {
            step(x, 1, current, 3600, 250);
        }
        due("12: another cell", x.cycle(-1, 0), 0);
    }

    private static void promise12ManyCycles() {
        CellRows2 x = new CellRows2(1);
        for (int k = 0; k < 509; k++) {
            currents(x, k % 2 == 0 ? 40 : -40);
        }
        due("12: many cycles", x.cycle(-1, 0), 254);
        due("12: the last of many", x.cycle(253, 0), 40);
        due("12: behind the last of many", x.cycle(254, 0), -1);
    }

    private static void promise12FiveHundredPoints() {
        CellRows2 x = new CellRows2(1);
        makeSmallerTurns(x, 499);
        long last = x.charge(0);
        currents(x, -600);
        due("12: the 501st point is passed over", x.cycle(-1, 0), 0);
        currents(x, 600);
        due("12: the same as the 500th", x.cycle(-1, 0), 0);
        currents(x, 1);
        due("12: one that goes on takes the place of the 500th", x.cycle(-1, 0), 1);
        due("12: range", x.cycle(0, 0), 502);
        due("12: less one", x.cycle(0, 1), last - 501);
        currents(x, -503);
        due("12: there is room again", x.cycle(-1, 0), 2);
        due("12: range of the next", x.cycle(1, 0), 503);
    }

    private static void promise12TheFiveHundredth() {
        CellRows2 full = new CellRows2(1);
        currents(full, 0);
        makeSmallerTurns(full, 498);
        currents(full, 600);
        due("12: the 500th point is kept", full.cycle(-1, 0) > 0 ? 1 : 0, 1);
    }

    private static void promise13Cool() {
        long[] warm = {350, 351, 450, 451, 550, 551, 2000, -1000};
        int[] asked = {0, 1, 1, 2, 2, 3, 3, 0};
        CellRows2 x = new CellRows2(3);
        for (int i = 0; i < warm.length; i++) {
            step(x, i % 3, 0, 3600, warm[i]);
            due("13: warmth " + warm[i], x.cool(), asked[i]);
            step(x, i % 3, 0, 3600, 250);
            due("13: cold again", x.cool(), 0);
        }
        step(x, 0, 0, 3600, 360);
        step(x, 1, 0, 3600, 460);
        due("13: the greatest one", x.cool(), 2);
        step(x, 1, 0, 3600, 0);
        due("13: of those that are left", x.cool(), 1);
    }

    private static void promise14Fault() {
        CellRows2 x = new CellRows2(1);
        x.insulate(5);
        x.stuck(0);
        x.contactor(true);
        x.stuck(0);
        toPreCharge(x);
        steps(x, 20);
        x.contactor(true);
        step(x, 0, 90000, 3600, 250);
        step(x, 0, 0, 9000, 250);
        int[] faults = {5, 4, 3, 2, 1, 2};
        for (int i = 0; i < faults.length; i++) {
            due("14: fault " + i, x.fault(i), faults[i]);
        }
        int[] unknown = {6, 7, 2000, -1, Integer.MIN_VALUE, Integer.MAX_VALUE};
        for (int i : unknown) {
            due("14: fault " + i, x.fault(i), 0);
        }
        CellRows2 many = new CellRows2(1);
        for (int i = 0; i < 510; i++) {
            step(many, 0, 100000, 3600, 250);
        }
        due("14: the last of many", many.fault(764), 2);
        due("14: behind the last of many", many.fault(765), 0);
    }
}
