/** Each sentence of "What it is" and "Terms" that names a boundary case: at the bound, and on both sides of it. */
public final class CellRows2TermsTest extends Checks {

    public static void main(String[] args) {
        calls512();
        faultsOf512Calls();
        cyclesOf512Calls();
        cellsFromZeroOn();
        firstState();
        firstVoltage();
        firstLimitsOfASingleStep();
        firstLimitOfBleeding();
        firstCapacity();
        bleedingLosesFive();
        bleedingIsNotInTheEstimate();
        estimateWithoutCapacity();
        predictedWithinShare();
        toldWithinShare();
        estimateStaysWithinShare();
        beyondLimits();
        beyondLimitsAtTheirEnds();
        beyondLimitsThatExcludeAll();
        secondTimeBeyond();
        rowsOfBeyondThatEnd();
        chargeFault();
        chargeFaultBehindTheStep();
        chargeFaultWithoutCapacity();
        twoFaultsInOneStep();
        faultsOfAStepOpenAll();
        otherFaultsOpenAll();
        noFaultOpensNothing();
        stages();
        threeStepsSincePreCharge();
        whichStepsCount();
        twentyStepsSincePreCharge();
        tooSlowIsToldByClosing();
        stuckCannotBeClosed();
        stuckAndTooSlow();
        stuckAndClosedAlready();
        end("each sentence of the terms holds at its bounds");
    }

    private static void calls512() {
        sentence("An object is used for at most 512 calls after it has been made");
        for (int calls = 511; calls <= 512; calls++) {
            CellRows2 x = new CellRows2(1);
            for (int k = 1; k < calls; k++) {
                step(x, 0, 100000, 3600, 250);
            }
            due("call " + calls + ", charge", x.charge(0), 50000 + (calls - 1) * 100000L);
        }
        CellRows2 x = new CellRows2(24);
        for (int call = 1; call <= 512; call++) {
            due("call " + call + ", a step beyond", step(x, 23, 0, 2700, 250), call % 2 == 0 ? 2 : 1);
        }
        CellRows2 low = new CellRows2(24);
        for (int call = 1; call <= 511; call++) {
            step(low, 23, -100000, 3600, 250);
        }
        due("call 512, below 0", whole(low, 23, 0), -1021);
    }

    private static void faultsOf512Calls() {
        sentence("An object is used for at most 512 calls after it has been made");
        int[] asked = {763, 764, 765, 766};
        int[] answers = {1, 2, 2, 0};
        for (int i = 0; i < asked.length; i++) {
            CellRows2 x = new CellRows2(1);
            for (int call = 1; call <= 511; call++) {
                step(x, 0, 100000, 3600, 250);
            }
            due("call 512, fault " + asked[i], x.fault(asked[i]), answers[i]);
        }
    }

    private static void cyclesOf512Calls() {
        sentence("An object is used for at most 512 calls after it has been made");
        int[] asked = {-1, 253, 254, 255};
        int[] answers = {255, 40, 40, -1};
        for (int i = 0; i < asked.length; i++) {
            CellRows2 x = new CellRows2(1);
            for (int call = 1; call <= 511; call++) {
                currents(x, call % 2 == 0 ? -40 : 40);
            }
            due("call 512, cycle " + asked[i], x.cycle(asked[i], 0), answers[i]);
        }
    }

    private static void cellsFromZeroOn() {
        sentence("CELLS are numbered from 0 on");
        CellRows2 x = new CellRows2(3);
        due("cell -1", x.charge(-1), 0);
        due("cell 0", x.charge(0), 50000);
        due("the last cell", x.charge(2), 50000);
        due("one behind the last", x.charge(3), 0);
    }

    private static void firstState() {
        sentence("each has a CHARGE, at first 50000, an ESTIMATE (double), at first 0.5");
        CellRows2 x = new CellRows2(24);
        for (int cell = 0; cell < 24; cell++) {
            due("charge of cell " + cell, x.charge(cell), 50000);
            due("estimate of cell " + cell, x.share(cell), 0.5);
        }
        due("warmth 250 asks no cooling", x.cool(), 0);
        sentence("how many steps in a row it was BEYOND, at first 0, and may BLEED");
        for (int cell = 0; cell < 24; cell++) {
            due("cell " + cell + " beyond for the first time", step(x, cell, 0, 4201, 250), 1);
            due("cell " + cell + " did not bleed", x.charge(cell), 50000);
        }
    }

    private static void firstVoltage() {
        sentence("a VOLTAGE, at first 3600");
        long[] volts = {3589, 3590, 3591};
        long[] answers = {1, 1, -3};
        for (int i = 0; i < volts.length; i++) {
            CellRows2 x = new CellRows2(2);
            step(x, 1, 0, volts[i], 250);
            due("a new cell beside one of " + volts[i], x.bleed(0), answers[i]);
        }
        long[] above = {3609, 3610, 3611};
        long[] whether = {-3, 1, 1};
        for (int i = 0; i < above.length; i++) {
            CellRows2 x = new CellRows2(2);
            step(x, 1, 0, above[i], 250);
            due("one of " + above[i] + " beside a new cell", x.bleed(1), whether[i]);
        }
    }

    private static void firstLimitsOfASingleStep() {
        sentence("LIMITS: 0 the least VOLTAGE, 2800");
        stepOfANewCell(0, 2799, 250, 1);
        stepOfANewCell(0, 2800, 250, 0);
        stepOfANewCell(0, 2801, 250, 0);
        sentence("1 the greatest, 4200");
        stepOfANewCell(0, 4199, 250, 0);
        stepOfANewCell(0, 4200, 250, 0);
        stepOfANewCell(0, 4201, 250, 1);
        sentence("2 the greatest WARMTH, 600");
        stepOfANewCell(0, 3600, 599, 0);
        stepOfANewCell(0, 3600, 600, 0);
        stepOfANewCell(0, 3600, 601, 1);
        sentence("3 the greatest current either way, 5000");
        stepOfANewCell(4999, 3600, 250, 0);
        stepOfANewCell(5000, 3600, 250, 0);
        stepOfANewCell(5001, 3600, 250, 1);
        stepOfANewCell(-4999, 3600, 250, 0);
        stepOfANewCell(-5000, 3600, 250, 0);
        stepOfANewCell(-5001, 3600, 250, 1);
    }

    private static void stepOfANewCell(long current, long volt, long warm, long answer) {
        due("step by " + current + ", " + volt + ", " + warm, step(new CellRows2(1), 0, current, volt, warm), answer);
    }

    private static void firstLimitOfBleeding() {
        sentence("4 the least CHARGE for which it may BLEED, 1000");
        long[] charges = {999, 1000, 1001};
        long[] answers = {-3, 1, 1};
        for (int i = 0; i < charges.length; i++) {
            CellRows2 x = new CellRows2(2);
            due("a step to " + charges[i], step(x, 1, charges[i] - 50000, 3700, 250), 1);
            due("bleeds with " + charges[i], x.bleed(1), answers[i]);
        }
    }

    private static void firstCapacity() {
        sentence("All have one CAPACITY, at first 100000");
        long[] charges = {99999, 100000, 100001};
        long[] answers = {0, 0, 2};
        for (int cell = 0; cell < 2; cell++) {
            CellRows2 x = new CellRows2(2);
            x.limit(3, 1000000);
            due("above, of cell " + cell, whole(x, cell, 0), 1);
            due("below, of cell " + cell, whole(x, cell, 1), 2);
            for (int i = 0; i < charges.length; i++) {
                long current = charges[i] - x.charge(cell);
                due("cell " + cell + " with " + charges[i], step(x, cell, current, 3600, 250), answers[i]);
            }
        }
    }

    private static CellRows2 withTheSecondBleeding() {
        CellRows2 x = new CellRows2(2);
        x.limit(3, 1000000);
        step(x, 1, 0, 3700, 250);
        due("bleeds", x.bleed(1), 1);
        return x;
    }

    private static void bleedingLosesFive() {
        sentence("a cell that BLEEDS loses 5 more of it");
        CellRows2 down = withTheSecondBleeding();
        due("to 1", step(down, 1, -49994, 3700, 250), 0);
        due("to 0", step(down, 1, 4, 3700, 250), 0);
        due("to -1", step(down, 1, 4, 3700, 250), 2);
        due("charge", down.charge(1), -1);
        due("the other lost nothing", down.charge(0), 50000);
        CellRows2 up = withTheSecondBleeding();
        due("to the capacity", step(up, 1, 50005, 3700, 250), 0);
        due("to one more", step(up, 1, 6, 3700, 250), 2);
        due("charge", up.charge(1), 100001);
        due("bleeds no more", up.bleed(1), 0);
        step(up, 1, 0, 3700, 250);
        due("charge stays", up.charge(1), 100001);
    }

    private static void bleedingIsNotInTheEstimate() {
        sentence("p = e + current / CAPACITY");
        CellRows2 x = withTheSecondBleeding();
        double predicted = x.share(1) + 500 / 100000.0;
        due("a step by 500", step(x, 1, 500, 3700, 250), 0);
        due("the charge lost 5", x.charge(1), 50495);
        due("the estimate did not", x.share(1), predicted + 0.0625 * (700 / 1200.0 - predicted));
    }

    private static void estimateWithoutCapacity() {
        sentence("p = e if the CAPACITY is 0");
        long[] capacities = {0, 0, 0, 1, 1, 1, 2};
        long[] given = {0, 5000, -5000, 0, 1, -1, 1};
        double[] predicted = {0.5, 0.5, 0.5, 0.5, 1.0, 0.0, 1.0};
        for (int i = 0; i < given.length; i++) {
            CellRows2 x = new CellRows2(1);
            x.limit(5, capacities[i]);
            step(x, 0, given[i], 4200, 250);
            due("capacity " + capacities[i] + ", current " + given[i], x.share(0),
                predicted[i] + 0.0625 * (1.0 - predicted[i]));
        }
    }

    private static void predictedWithinShare() {
        sentence("p is 0 if it is below 0, 1 if it is above 1");
        long[] given = {-49999, -50000, -50001, -100000, 49999, 50000, 50001, 100000};
        double[] predicted = {0.5 + -49999 / 100000.0, 0, 0, 0, 0.5 + 49999 / 100000.0, 1, 1, 1};
        for (int i = 0; i < given.length; i++) {
            CellRows2 x = new CellRows2(1);
            step(x, 0, given[i], 3600, 250);
            due("current " + given[i], x.share(0), predicted[i] + 0.0625 * (0.5 - predicted[i]));
        }
    }

    private static void toldWithinShare() {
        sentence("t = (VOLTAGE - 3000) / 1200, likewise within 0 and 1");
        long[] volts = {0, 2999, 3000, 3001, 4199, 4200, 4201, 10000};
        double[] told = {0, 0, 0, 1 / 1200.0, 1199 / 1200.0, 1, 1, 1};
        for (int i = 0; i < volts.length; i++) {
            CellRows2 x = new CellRows2(1);
            step(x, 0, 0, volts[i], 250);
            due("volt " + volts[i], x.share(0), 0.5 + 0.0625 * (told[i] - 0.5));
        }
    }

    private static void estimateStaysWithinShare() {
        sentence("p is 0 if it is below 0, 1 if it is above 1");
        CellRows2 x = new CellRows2(1);
        for (int k = 0; k < 3; k++) {
            step(x, 0, -100000, 0, 250);
            due("all empty", x.share(0), 0.0);
        }
        step(x, 0, 0, 3000, 250);
        due("empty still", x.share(0), 0.0);
        for (int k = 0; k < 3; k++) {
            step(x, 0, 100000, 10000, 250);
            due("all full", x.share(0), 1.0);
        }
        step(x, 0, 0, 4200, 250);
        due("full still", x.share(0), 1.0);
    }

    private static void beyondLimits() {
        sentence("It is BEYOND if its VOLTAGE is less than LIMIT 0");
        stepWithLimit(0, 3000, 0, 2999, 250, 1);
        stepWithLimit(0, 3000, 0, 3000, 250, 0);
        stepWithLimit(0, 3000, 0, 3001, 250, 0);
        sentence("or more than LIMIT 1");
        stepWithLimit(1, 3500, 0, 3499, 250, 0);
        stepWithLimit(1, 3500, 0, 3500, 250, 0);
        stepWithLimit(1, 3500, 0, 3501, 250, 1);
        sentence("its WARMTH more than LIMIT 2");
        stepWithLimit(2, -5, 0, 3600, -6, 0);
        stepWithLimit(2, -5, 0, 3600, -5, 0);
        stepWithLimit(2, -5, 0, 3600, -4, 1);
        sentence("or the current's size more than LIMIT 3");
        long[] given = {9, 10, 11, -9, -10, -11};
        long[] answers = {0, 0, 1, 0, 0, 1};
        for (int i = 0; i < given.length; i++) {
            stepWithLimit(3, 10, given[i], 3600, 250, answers[i]);
        }
        stepWithLimit(3, 0, 0, 3600, 250, 0);
        stepWithLimit(3, 0, 1, 3600, 250, 1);
        stepWithLimit(3, 0, -1, 3600, 250, 1);
    }

    private static void beyondLimitsAtTheirEnds() {
        sentence("It is BEYOND if its VOLTAGE is less than LIMIT 0 or more than LIMIT 1");
        stepWithLimit(0, -1000, 0, 0, 250, 0);
        stepWithLimit(1, 10000, 0, 10000, 250, 0);
        stepWithLimit(1, 9999, 0, 10000, 250, 1);
        sentence("its WARMTH more than LIMIT 2");
        stepWithLimit(2, -1000, 0, 3600, -1000, 0);
        stepWithLimit(2, -1000, 0, 3600, -999, 1);
        stepWithLimit(2, 2000, 0, 3600, 2000, 0);
        stepWithLimit(2, 1999, 0, 3600, 2000, 1);
        sentence("or the current's size more than LIMIT 3");
        CellRows2 x = new CellRows2(1);
        x.limit(5, 1000000);
        x.limit(3, 100000);
        due("limit 100000, current 100000", step(x, 0, 100000, 3600, 250), 0);
        due("limit 100000, current -100000", step(x, 0, -100000, 3600, 250), 0);
        x.limit(3, 99999);
        due("limit 99999, current 100000", step(x, 0, 100000, 3600, 250), 1);
        due("the same but 1", step(x, 0, 99999, 3600, 250), 0);
        due("limit 99999, current -100000", step(x, 0, -100000, 3600, 250), 1);
    }

    private static void beyondLimitsThatExcludeAll() {
        sentence("It is BEYOND if its VOLTAGE is less than LIMIT 0 or more than LIMIT 1");
        stepWithLimit(0, 1000000, 0, 4200, 250, 1);
        stepWithLimit(1, -1000, 0, 2800, 250, 1);
        stepWithLimit(0, 4200, 0, 4200, 250, 0);
        stepWithLimit(0, 4201, 0, 4200, 250, 1);
        stepWithLimit(0, 4201, 0, 4201, 250, 1);
        sentence("or the current's size more than LIMIT 3");
        stepWithLimit(3, -1, 0, 3600, 250, 1);
    }

    private static void stepWithLimit(int what, long limit, long current, long volt, long warm, long answer) {
        CellRows2 x = new CellRows2(1);
        due("limit " + what + " becomes " + limit, x.limit(what, limit), 1);
        due("with limit " + what + " of " + limit + ", step by " + current + ", " + volt + ", " + warm,
            step(x, 0, current, volt, warm), answer);
    }

    private static void secondTimeBeyond() {
        sentence("The second time in a row it was BEYOND that is a FAULT (1), as every second time after");
        CellRows2 x = new CellRows2(1);
        for (int time = 1; time <= 9; time++) {
            due("time " + time, step(x, 0, 0, 2799, 250), time % 2 == 0 ? 2 : 1);
            int faults = time / 2;
            due("the last fault of time " + time, x.fault(faults - 1), faults == 0 ? 0 : 1);
            due("none behind it, time " + time, x.fault(faults), 0);
        }
        CellRows2 each = new CellRows2(1);
        due("by its voltage", step(each, 0, 0, 4201, 250), 1);
        due("by its warmth", step(each, 0, 0, 3600, 601), 2);
        due("by the current", step(each, 0, 5001, 3600, 250), 1);
        due("by all of them", step(each, 0, -5001, 2799, 601), 2);
    }

    private static void rowsOfBeyondThatEnd() {
        sentence("The second time in a row it was BEYOND that is a FAULT (1)");
        for (int times = 1; times <= 4; times++) {
            CellRows2 x = new CellRows2(2);
            for (int k = 0; k < times; k++) {
                step(x, 1, 0, 2799, 250);
            }
            due("within, after " + times, step(x, 1, 0, 2800, 250), 0);
            due("the first time of a new row, after " + times, step(x, 1, 0, 2799, 250), 1);
            due("the other cell, after " + times, step(x, 0, 0, 2799, 250), 1);
            due("the other cell within, after " + times, step(x, 0, 0, 2800, 250), 0);
            due("the second time, after " + times, step(x, 1, 0, 2799, 250), 2);
            due("faults, after " + times, x.fault(times / 2), 1);
            due("no more, after " + times, x.fault(times / 2 + 1), 0);
        }
    }

    private static void chargeFault() {
        sentence("if its CHARGE is below 0 or above the CAPACITY behind the step, that is a FAULT (2)");
        long[] charges = {-1, 0, 1, 99999, 100000, 100001};
        long[] answers = {2, 0, 0, 0, 0, 2};
        for (int i = 0; i < charges.length; i++) {
            CellRows2 x = new CellRows2(2);
            x.limit(3, 1000000);
            due("charge " + charges[i], step(x, 1, charges[i] - 50000, 3600, 250), answers[i]);
            due("fault of charge " + charges[i], x.fault(0), answers[i]);
            due("none behind it, charge " + charges[i], x.fault(1), 0);
        }
        long[] capacities = {49999, 50000, 50001};
        long[] whether = {2, 0, 0};
        for (int i = 0; i < capacities.length; i++) {
            CellRows2 x = new CellRows2(1);
            x.limit(5, capacities[i]);
            due("capacity " + capacities[i] + ", no fault before a step", x.fault(0), 0);
            due("capacity " + capacities[i], step(x, 0, 0, 3600, 250), whether[i]);
        }
    }

    private static void chargeFaultBehindTheStep() {
        sentence("if its CHARGE is below 0 or above the CAPACITY behind the step");
        CellRows2 x = new CellRows2(1);
        x.limit(3, 1000000);
        long[] given = {50001, 0, -1, -100000, -1, 0, 1};
        long[] answers = {2, 2, 0, 0, 2, 2, 0};
        for (int i = 0; i < given.length; i++) {
            due("step " + i + " by " + given[i], step(x, 0, given[i], 3600, 250), answers[i]);
        }
        due("the fourth fault", x.fault(3), 2);
        due("no fifth", x.fault(4), 0);
    }

    private static void chargeFaultWithoutCapacity() {
        sentence("if its CHARGE is below 0 or above the CAPACITY behind the step");
        CellRows2 x = new CellRows2(1);
        x.limit(3, 1000000);
        x.limit(5, 0);
        due("charge 1, capacity 0", step(x, 0, -49999, 3600, 250), 2);
        due("charge 0, capacity 0", step(x, 0, -1, 3600, 250), 0);
        due("charge -1, capacity 0", step(x, 0, -1, 3600, 250), 2);
    }

    private static void twoFaultsInOneStep() {
        sentence("that is a FAULT (2), behind the other one");
        CellRows2 x = new CellRows2(1);
        due("beyond for the first time", step(x, 0, 0, 2799, 250), 1);
        due("for the second, and below 0", step(x, 0, -50001, 3600, 250), 2);
        due("the first fault", x.fault(0), 1);
        due("the second fault", x.fault(1), 2);
        due("no third", x.fault(2), 0);
        due("for the third time, below 0 still", step(x, 0, 0, 2799, 250), 2);
        due("the third fault", x.fault(2), 2);
        due("no fourth", x.fault(3), 0);
        due("for the fourth, and charged", step(x, 0, 50001, 3600, 250), 2);
        due("the fourth fault", x.fault(3), 1);
        due("no fifth", x.fault(4), 0);
    }

    private static CellRows2 atStage(int stage) {
        CellRows2 x = new CellRows2(2);
        for (int reached = 1; reached <= stage; reached++) {
            if (reached == 3) {
                steps(x, 3);
            }
            due("to stage " + reached, x.contactor(true), reached);
        }
        return x;
    }

    private static void dueOpen(String call, CellRows2 x) {
        due(call + ", closes from the first one on", x.contactor(true), 1);
        due(call + ", the second one", x.contactor(true), 2);
        due(call + ", its steps are counted anew", x.contactor(true), -3);
    }

    private static void faultsOfAStepOpenAll() {
        sentence("With each FAULT all contactors are OPEN");
        for (int stage = 0; stage <= 3; stage++) {
            CellRows2 often = atStage(stage);
            step(often, 1, 0, 2799, 250);
            due("twice beyond", step(often, 1, 0, 2799, 250), 2);
            dueOpen("fault 1 at stage " + stage, often);
            CellRows2 wrong = atStage(stage);
            due("charge above the capacity", step(wrong, 1, 50001, 3600, 250), 2);
            dueOpen("fault 2 at stage " + stage, wrong);
            CellRows2 both = atStage(stage);
            step(both, 1, 0, 2799, 250);
            due("both", step(both, 1, -50001, 3600, 250), 2);
            dueOpen("faults 1 and 2 at stage " + stage, both);
        }
    }

    private static void otherFaultsOpenAll() {
        sentence("With each FAULT all contactors are OPEN");
        for (int stage = 0; stage <= 3; stage++) {
            CellRows2 x = atStage(stage);
            due("insulation 99", x.insulate(99), 0);
            dueOpen("fault 5 at stage " + stage, x);
        }
        for (int stage = 0; stage < 3; stage++) {
            CellRows2 x = atStage(stage);
            steps(x, 3);
            x.stuck(stage);
            due("stuck", x.contactor(true), 0);
            x.stuck(stage);
            dueOpen("fault 4 at stage " + stage, x);
        }
        CellRows2 slow = atStage(2);
        steps(slow, 20);
        due("too slow", slow.contactor(true), 0);
        dueOpen("fault 3 at stage 2", slow);
    }

    private static void noFaultOpensNothing() {
        sentence("With each FAULT all contactors are OPEN");
        CellRows2 x = atStage(3);
        due("beyond once", step(x, 1, 0, 2799, 250), 1);
        due("enough insulation", x.insulate(100), 1);
        due("wrong insulation", x.insulate(-1), -2);
        due("stuck", x.stuck(1), 1);
        due("a capacity below the charges", x.limit(5, 1), 1);
        due("all are closed still", x.contactor(true), -3);
        due("no fault", x.fault(0), 0);
    }

    private static void stages() {
        sentence("CONTACTORS 0, 1, 2: STAGE 0 all are OPEN (at first) .. From STAGE to STAGE by one call each");
        CellRows2 x = new CellRows2(1);
        due("open already", x.contactor(false), 0);
        due("the first one", x.contactor(true), 1);
        due("the second one", x.contactor(true), 2);
        steps(x, 3);
        due("the third one", x.contactor(true), 3);
        due("there is no fourth", x.contactor(true), -3);
        due("there is no fourth, told again", x.contactor(true), -3);
        for (int stage = 0; stage <= 3; stage++) {
            CellRows2 closed = atStage(stage);
            due("open from stage " + stage, closed.contactor(false), 0);
            dueOpen("opened from stage " + stage, closed);
        }
    }

    private static void threeStepsSincePreCharge() {
        sentence("from 2 to 3 only when there were 3 STEPS or more since STAGE 2 began");
        int[] answers = {-3, -3, -3, 3, 3};
        for (int count = 0; count < answers.length; count++) {
            CellRows2 x = atStage(2);
            steps(x, count);
            due(count + " steps", x.contactor(true), answers[count]);
            due(count + " steps, no fault", x.fault(0), 0);
        }
        CellRows2 asking = atStage(2);
        for (int count = 0; count < 3; count++) {
            due("asked with " + count + " steps", asking.contactor(true), -3);
            steps(asking, 1);
        }
        due("asked with 3 steps", asking.contactor(true), 3);
    }

    private static void whichStepsCount() {
        sentence("3 STEPS or more since STAGE 2 began");
        CellRows2 x = new CellRows2(3);
        steps(x, 4);
        x.contactor(true);
        steps(x, 4);
        due("the steps before do not count", x.contactor(true), 2);
        due("the steps before do not count", x.contactor(true), -3);
        due("a step of any cell", step(x, 2, 0, 3600, 250), 0);
        due("a step beyond", step(x, 1, 0, 2799, 250), 1);
        due("a refused step", step(x, 0, 0, 10001, 250), -2);
        due("a step of no cell", step(x, 3, 0, 3600, 250), THROWN);
        due("two steps so far", x.contactor(true), -3);
        due("the third step", step(x, 2, 0, 3600, 250), 0);
        due("three steps", x.contactor(true), 3);
        x.contactor(false);
        toPreCharge(x);
        steps(x, 2);
        due("counted anew behind an opening", x.contactor(true), -3);
        x.insulate(0);
        toPreCharge(x);
        steps(x, 1);
        due("counted anew behind a fault", x.contactor(true), -3);
    }

    private static void twentyStepsSincePreCharge() {
        sentence("with 20 or more that was too slow: a FAULT (3)");
        int[] counts = {18, 19, 20, 21, 400};
        int[] answers = {3, 3, 0, 0, 0};
        int[] faults = {0, 0, 3, 3, 3};
        for (int i = 0; i < counts.length; i++) {
            CellRows2 x = atStage(2);
            steps(x, counts[i]);
            due(counts[i] + " steps", x.contactor(true), answers[i]);
            due(counts[i] + " steps, the fault", x.fault(0), faults[i]);
            due(counts[i] + " steps, no other", x.fault(1), 0);
        }
    }

    private static void tooSlowIsToldByClosing() {
        sentence("with 20 or more that was too slow: a FAULT (3)");
        CellRows2 opened = atStage(2);
        steps(opened, 21);
        due("no fault by the steps alone", opened.fault(0), 0);
        due("to open is never too slow", opened.contactor(false), 0);
        due("no fault by opening", opened.fault(0), 0);
        CellRows2 first = atStage(0);
        steps(first, 21);
        due("stage 0 knows no time", first.contactor(true), 1);
        steps(first, 21);
        due("stage 1 knows no time", first.contactor(true), 2);
        steps(first, 19);
        due("the steps before do not count", first.contactor(true), 3);
        steps(first, 21);
        due("stage 3 knows no time", first.contactor(true), -3);
        due("no fault", first.fault(0), 0);
    }

    private static void stuckCannotBeClosed() {
        sentence("A contactor that is STUCK cannot be closed: to close it is a FAULT (4");
        for (int stuck = 0; stuck < 3; stuck++) {
            for (int stage = 0; stage < 3; stage++) {
                CellRows2 x = atStage(stage);
                steps(x, 3);
                x.stuck(stuck);
                due("to stage " + (stage + 1) + ", stuck is " + stuck, x.contactor(true), stuck == stage ? 0 : stage + 1);
                due("the fault", x.fault(0), stuck == stage ? 4 : 0);
                due("no other", x.fault(1), 0);
            }
        }
        CellRows2 again = new CellRows2(1);
        again.stuck(0);
        due("the first time", again.contactor(true), 0);
        due("the second time", again.contactor(true), 0);
        due("a fault each time", again.fault(1), 4);
        due("to open it is none", again.contactor(false), 0);
        due("two faults", again.fault(2), 0);
    }

    private static void stuckAndTooSlow() {
        sentence("(4; not if it was too slow)");
        int[] counts = {0, 2, 3, 19, 20, 21};
        int[] answers = {-3, -3, 0, 0, 0, 0};
        int[] faults = {0, 0, 4, 4, 3, 3};
        for (int i = 0; i < counts.length; i++) {
            CellRows2 x = atStage(2);
            x.stuck(2);
            steps(x, counts[i]);
            due("stuck, " + counts[i] + " steps", x.contactor(true), answers[i]);
            due("stuck, " + counts[i] + " steps, the fault", x.fault(0), faults[i]);
            due("stuck, " + counts[i] + " steps, no other", x.fault(1), 0);
        }
    }

    private static void stuckAndClosedAlready() {
        sentence("A contactor that is STUCK cannot be closed");
        CellRows2 x = atStage(2);
        x.stuck(0);
        x.stuck(1);
        steps(x, 3);
        due("what is closed already is not closed again", x.contactor(true), 3);
        due("stage 3 already, stuck or not", x.contactor(true), -3);
        due("to open what is stuck", x.contactor(false), 0);
        due("no fault", x.fault(0), 0);
        due("to close it", x.contactor(true), 0);
        due("a fault", x.fault(0), 4);
    }
}
