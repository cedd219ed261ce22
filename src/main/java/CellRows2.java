/** Cells of a battery with their limits, contactors, balance, cooling, faults and ageing. */
public final class CellRows2 {

    private static final int UNKNOWN = -1;
    private static final int OUTSIDE = -2;
    private static final int NOT_NOW = -3;

    private static final int MOST_CELLS = 24;
    private static final int USUAL_CELLS = 8;

    private static final int LEAST_VOLTAGE = 0;
    private static final int GREATEST_VOLTAGE = 1;
    private static final int GREATEST_WARMTH = 2;
    private static final int GREATEST_CURRENT = 3;
    private static final int LEAST_BLEEDING = 4;
    private static final int CAPACITY = 5;
    private static final long[] FIRST_LIMITS = {2800, 4200, 600, 5000, 1000, 100000};

    private static final long FIRST_CHARGE = 50000;
    private static final long FIRST_VOLTAGE = 3600;
    private static final long FIRST_WARMTH = 250;
    private static final long BLED_BY_A_STEP = 5;
    private static final long BLEEDING_ABOVE_LEAST = 10;

    private static final int CONTACTORS = 3;
    private static final int ALL_OPEN = 0;
    private static final int PRE_CHARGE = 2;
    private static final int ALL_CLOSED = 3;
    private static final int PRE_CHARGE_LEAST_STEPS = 3;
    private static final int PRE_CHARGE_TOO_MANY_STEPS = 20;

    private static final int FAULT_BEYOND = 1;
    private static final int FAULT_CHARGE = 2;
    private static final int FAULT_TOO_SLOW = 3;
    private static final int FAULT_STUCK = 4;
    private static final int FAULT_INSULATION = 5;

    private static final long LEAST_INSULATION = 100;

    // 512 calls can bring two faults each.
    private static final int MOST_FAULTS = 1024;
    private static final int MOST_POINTS = 500;
    // A cycle takes two points out, and 512 steps put in at most one each.
    private static final int MOST_CYCLES = 256;

    private final Cell[] cells;
    private final long[] limits;
    private final boolean[] stuckContactors;
    private final int[] faults;
    private final Turns turns;
    private int stage;
    private int stepsOfPreCharge;
    private int faultCount;

    public CellRows2(int cells) {
        int count = cells < 1 || cells > MOST_CELLS ? USUAL_CELLS : cells;
        this.cells = new Cell[count];
        for (int i = 0; i < count; i++) {
            this.cells[i] = new Cell();
        }
        limits = FIRST_LIMITS.clone();
        stuckContactors = new boolean[CONTACTORS];
        faults = new int[MOST_FAULTS];
        turns = new Turns();
        turns.follow(FIRST_CHARGE);
    }

    public int step(int cell, long current, long volt, long warm) throws ArrayIndexOutOfBoundsException {
        if (isOutside(current, -100000, 100000) || isOutside(volt, 0, 10000) || isOutside(warm, -1000, 2000)) {
            return OUTSIDE;
        }
        Cell stepped = cellOf(cell);
        if (stepped == null) {
            throw new ArrayIndexOutOfBoundsException("there is no such cell");
        }
        stepped.take(current, volt, warm, limits[CAPACITY]);
        stepsOfPreCharge++;
        if (cell == 0) {
            turns.follow(stepped.charge);
        }
        boolean beyond = isBeyond(stepped, current);
        stepped.beyondInRow = beyond ? stepped.beyondInRow + 1 : 0;
        if (noteFaultsOfStep(stepped)) {
            return 2;
        }
        return beyond ? 1 : 0;
    }

    public long charge(int cell) {
        Cell asked = cellOf(cell);
        return asked == null ? 0 : asked.charge;
    }

    public double share(int cell) {
        Cell asked = cellOf(cell);
        return asked == null ? 0 : asked.estimate;
    }

    public long whole(int cell, int side) throws ArithmeticException {
        Cell asked = cellOf(cell);
        if (asked == null) {
            return 0;
        }
        long capacity = limits[CAPACITY];
        if (capacity == 0) {
            throw new ArithmeticException("the capacity is 0");
        }
        long divisor = greatestCommonDivisor(asked.charge, capacity);
        // With a capacity it is at least 1; looked at because nothing may divide unseen.
        if (divisor == 0) {
            return 0;
        }
        return (side == 0 ? asked.charge : capacity) / divisor;
    }

    public int contactor(boolean close) {
        if (!close) {
            stage = ALL_OPEN;
            return stage;
        }
        return closeNextContactor();
    }

    public int bleed(int cell) {
        Cell asked = cellOf(cell);
        if (asked == null) {
            return UNKNOWN;
        }
        if (!asked.bleeds && !mayBleed(asked)) {
            return NOT_NOW;
        }
        asked.bleeds = !asked.bleeds;
        return bleedingCells();
    }

    public int limit(int what, long v) {
        if (what < 0 || what >= limits.length) {
            return UNKNOWN;
        }
        long least = what == CAPACITY ? 0 : -1000;
        if (isOutside(v, least, 1000000)) {
            return OUTSIDE;
        }
        limits[what] = v;
        return 1;
    }

    public int weakest() {
        int found = 0;
        long least = Long.MAX_VALUE;
        for (int i = 0; i < cells.length; i++) {
            if (cells[i].charge < least) {
                least = cells[i].charge;
                found = i;
            }
        }
        return found;
    }

    public int insulate(long v) {
        if (v < 0) {
            return OUTSIDE;
        }
        if (v < LEAST_INSULATION) {
            noteFault(FAULT_INSULATION);
            return 0;
        }
        return 1;
    }

    public int stuck(int contactor) {
        if (contactor < 0 || contactor >= stuckContactors.length) {
            return UNKNOWN;
        }
        stuckContactors[contactor] = !stuckContactors[contactor];
        return stuckContactors[contactor] ? 1 : 0;
    }

    public int cycle(int i, int what) {
        if (i == -1 && what == 0) {
            return turns.cycleCount;
        }
        if (i < 0 || i >= turns.cycleCount) {
            return UNKNOWN;
        }
        if (what == 0) {
            return (int) turns.cycleRanges[i];
        }
        return what == 1 ? (int) turns.cycleLows[i] : OUTSIDE;
    }

    public int cool() {
        long greatest = greatestWarmth();
        if (greatest > 550) {
            return 3;
        }
        if (greatest > 450) {
            return 2;
        }
        return greatest > 350 ? 1 : 0;
    }

    public int fault(int i) {
        return i < 0 || i >= faultCount ? 0 : faults[i];
    }

    private static boolean isOutside(long value, long least, long greatest) {
        return value < least || value > greatest;
    }

    private Cell cellOf(int number) {
        return number < 0 || number >= cells.length ? null : cells[number];
    }

    private boolean isBeyond(Cell cell, long current) {
        return isOutside(cell.voltage, limits[LEAST_VOLTAGE], limits[GREATEST_VOLTAGE])
            || cell.warmth > limits[GREATEST_WARMTH]
            || Math.abs(current) > limits[GREATEST_CURRENT];
    }

    private boolean noteFaultsOfStep(Cell cell) {
        boolean tooOftenBeyond = cell.beyondInRow > 0 && cell.beyondInRow % 2 == 0;
        boolean wrongCharge = isOutside(cell.charge, 0, limits[CAPACITY]);
        if (tooOftenBeyond) {
            noteFault(FAULT_BEYOND);
        }
        if (wrongCharge) {
            noteFault(FAULT_CHARGE);
        }
        return tooOftenBeyond || wrongCharge;
    }

    private void noteFault(int kind) {
        stage = ALL_OPEN;
        if (faultCount < faults.length) {
            faults[faultCount] = kind;
            faultCount++;
        }
    }

    private int closeNextContactor() {
        if (stage == ALL_CLOSED || stage == PRE_CHARGE && stepsOfPreCharge < PRE_CHARGE_LEAST_STEPS) {
            return NOT_NOW;
        }
        if (stage == PRE_CHARGE && stepsOfPreCharge >= PRE_CHARGE_TOO_MANY_STEPS) {
            noteFault(FAULT_TOO_SLOW);
        } else if (isStuck(stage)) {
            noteFault(FAULT_STUCK);
        } else {
            stage++;
            stepsOfPreCharge = 0;
        }
        return stage;
    }

    private boolean isStuck(int contactor) {
        return contactor >= 0 && contactor < stuckContactors.length && stuckContactors[contactor];
    }

    private boolean mayBleed(Cell cell) {
        return cell.charge >= limits[LEAST_BLEEDING]
            && cell.voltage >= leastVoltage() + BLEEDING_ABOVE_LEAST;
    }

    private long leastVoltage() {
        long least = Long.MAX_VALUE;
        for (Cell cell : cells) {
            least = Math.min(least, cell.voltage);
        }
        return least;
    }

    private long greatestWarmth() {
        long greatest = Long.MIN_VALUE;
        for (Cell cell : cells) {
            greatest = Math.max(greatest, cell.warmth);
        }
        return greatest;
    }

    private int bleedingCells() {
        int count = 0;
        for (Cell cell : cells) {
            if (cell.bleeds) {
                count++;
            }
        }
        return count;
    }

    private static long greatestCommonDivisor(long one, long other) {
        long divisor = one;
        long rest = other;
        // Two longs need fewer than a hundred rounds.
        for (int round = 0; round < 1000 && rest != 0; round++) {
            long next = divisor % rest;
            divisor = rest;
            rest = next;
        }
        return Math.abs(divisor);
    }

    /** What is known of one cell. */
    private static final class Cell {
        private long charge = FIRST_CHARGE;
        private double estimate = 0.5;
        private long voltage = FIRST_VOLTAGE;
        private long warmth = FIRST_WARMTH;
        private int beyondInRow;
        private boolean bleeds;

        private void take(long current, long volt, long warm, long capacity) {
            voltage = volt;
            warmth = warm;
            charge += bleeds ? current - BLED_BY_A_STEP : current;
            double counted = capacity == 0 ? estimate : estimate + (double) current / (double) capacity;
            double predicted = withinShare(counted);
            double told = withinShare((double) (volt - 3000) / 1200.0);
            estimate = predicted + 0.0625 * (told - predicted);
        }

        private static double withinShare(double value) {
            if (value < 0.0) {
                return 0.0;
            }
            return value > 1.0 ? 1.0 : value;
        }
    }

    /** The turning points of a row of charges, and the ageing cycles that were taken out of them. */
    private static final class Turns {
        private final long[] points = new long[MOST_POINTS];
        private final long[] cycleRanges = new long[MOST_CYCLES];
        private final long[] cycleLows = new long[MOST_CYCLES];
        private int pointCount;
        private int cycleCount;

        private void follow(long charge) {
            if (goesOn(charge)) {
                points[pointCount - 1] = charge;
            } else if (pointCount < points.length) {
                points[pointCount] = charge;
                pointCount++;
            }
            takeCyclesOut();
        }

        private boolean goesOn(long charge) {
            if (pointCount < 1) {
                return false;
            }
            long last = points[pointCount - 1];
            if (charge == last) {
                return true;
            }
            // Neighbours among the points always differ, so one comparison tells the way.
            return pointCount > 1 && (charge > last) == (last > points[pointCount - 2]);
        }

        private void takeCyclesOut() {
            while (pointCount >= 4) {
                long a = points[pointCount - 4];
                long b = points[pointCount - 3];
                long c = points[pointCount - 2];
                long d = points[pointCount - 1];
                long range = Math.abs(b - c);
                if (range > Math.abs(a - b) || range > Math.abs(c - d)) {
                    return;
                }
                keepCycle(range, Math.min(b, c));
                points[pointCount - 3] = d;
                pointCount -= 2;
            }
        }

        private void keepCycle(long range, long low) {
            if (cycleCount < cycleRanges.length) {
                cycleRanges[cycleCount] = range;
                cycleLows[cycleCount] = low;
                cycleCount++;
            }
        }
    }
}
