/** Each sentence about TURNS that names a boundary case: ranges that are equal, points that go on, 500 points. */
public final class CellRows2TurnsTest extends Checks {

    public static void main(String[] args) {
        chargeBeforeTheFirstStep();
        rowOfCellZeroAlone();
        pointsThatGoOn();
        pointsThatAreTheSame();
        pointsThatTurn();
        betweenLessThanBefore();
        betweenLessThanBehind();
        bothTakenOut();
        fromTheLessOne();
        thenAgain();
        againOnlyWhileItFits();
        rowBehindACycle();
        lastPointAsItStands();
        pointsUpTo500();
        passedOverAt500();
        goesOnAt500();
        roomAgainBelow500();
        growingTurnsUpTo500();
        passedOverIsAStepStill();
        end("each sentence about turns holds at its bounds");
    }

    /** A row of charges that starts at 50000 and goes by these currents, upside down for a way of -1. */
    private static CellRows2 row(int way, long... given) {
        CellRows2 x = new CellRows2(1);
        for (long current : given) {
            currents(x, way * current);
        }
        return x;
    }

    private static void dueCycle(String call, CellRows2 x, int i, long range, long less) {
        due(call + ", range of cycle " + i, x.cycle(i, 0), range);
        due(call + ", less one of cycle " + i, x.cycle(i, 1), less);
    }

    private static void chargeBeforeTheFirstStep() {
        sentence("the row of CHARGES of cell 0 behind its STEPS (with the first one's before it)");
        CellRows2 x = row(1, 50, -50);
        due("three points", x.cycle(-1, 0), 0);
        currents(x, 50);
        due("four points, the first one's before it", x.cycle(-1, 0), 1);
        dueCycle("back to the first one", x, 0, 50, 50000);
    }

    private static void rowOfCellZeroAlone() {
        sentence("the row of CHARGES of cell 0 behind its STEPS");
        CellRows2 x = new CellRows2(2);
        long[] given = {50, -50, 50};
        for (long current : given) {
            step(x, 1, current, 3600, 250);
        }
        due("cell 1", x.cycle(-1, 0), 0);
        for (long current : given) {
            step(x, 0, current, 3600, 250);
            step(x, 1, -3 * current, 3600, 250);
        }
        due("cell 0, with cell 1 between", x.cycle(-1, 0), 1);
        dueCycle("cell 0", x, 0, 50, 50000);
        due("a refused step", step(x, 0, -50, 3600, 2001), -2);
        due("a step of no cell", step(x, 2, -50, 3600, 250), THROWN);
        due("they make no points", step(x, 0, 50, 3600, 250), 0);
        due("they make no cycles", x.cycle(-1, 0), 1);
    }

    private static void pointsThatGoOn() {
        sentence("one that goes on as the one before goes .. takes that one's place");
        for (int way = -1; way <= 1; way += 2) {
            CellRows2 x = row(way, 60, 40, -1, -29, -10, 1, 38);
            due("39 of 40", x.cycle(-1, 0), 0);
            currents(x, way);
            due("40 of 40", x.cycle(-1, 0), 1);
            dueCycle("from turn to turn", x, 0, 40, way == 1 ? 50060 : 49900);
        }
    }

    private static void pointsThatAreTheSame() {
        sentence("or is the same, takes that one's place");
        for (int way = -1; way <= 1; way += 2) {
            CellRows2 x = row(way, 0, 0, 60, 0, 40, 0, 0, -40, 0, 0, 39, 0);
            due("39 of 40", x.cycle(-1, 0), 0);
            currents(x, 0, way, 0);
            due("40 of 40", x.cycle(-1, 0), 1);
            dueCycle("from turn to turn", x, 0, 40, way == 1 ? 50060 : 49900);
        }
        CellRows2 same = row(1, 0, 0, 0, 0, 0, 0);
        due("nothing but the same", same.cycle(-1, 0), 0);
        CellRows2 many = row(1, 0, 0);
        makeSmallerTurns(many, 498);
        currents(many, 0, 502);
        due("the same is no point of the 500", many.cycle(-1, 0), 1);
    }

    private static void pointsThatTurn() {
        sentence("of which only the turning points are kept");
        for (int way = -1; way <= 1; way += 2) {
            CellRows2 x = row(way, 3, -1);
            due("three points", x.cycle(-1, 0), 0);
            currents(x, way);
            due("a turn by 1", x.cycle(-1, 0), 1);
            dueCycle("a turn by 1", x, 0, 1, way == 1 ? 50002 : 49997);
        }
    }

    private static void betweenLessThanBefore() {
        sentence("|b - c| <= |a - b|");
        long[] between = {99, 100, 101};
        int[] cycles = {1, 1, 0};
        for (int i = 0; i < between.length; i++) {
            for (int way = -1; way <= 1; way += 2) {
                CellRows2 x = row(way, 100, -between[i], 200);
                due("100, then " + between[i] + ", way " + way, x.cycle(-1, 0), cycles[i]);
                due("its range", x.cycle(0, 0), cycles[i] == 1 ? between[i] : -1);
            }
        }
    }

    private static void betweenLessThanBehind() {
        sentence("and |b - c| <= |c - d|");
        long[] between = {99, 100, 101};
        int[] cycles = {1, 1, 0};
        for (int i = 0; i < between.length; i++) {
            for (int way = -1; way <= 1; way += 2) {
                CellRows2 x = row(way, 200, -between[i], 100);
                due(between[i] + ", then 100, way " + way, x.cycle(-1, 0), cycles[i]);
                CellRows2 alike = row(way, 100, -between[i], 100);
                due("100, " + between[i] + ", 100, way " + way, alike.cycle(-1, 0), cycles[i]);
            }
        }
        due("more than both", row(1, 99, -100, 99).cycle(-1, 0), 0);
    }

    private static void bothTakenOut() {
        sentence("b and c are taken out, and that is an AGEING cycle of the range |b - c|");
        CellRows2 x = row(1, 100, -40, 40);
        due("the first cycle", x.cycle(-1, 0), 1);
        currents(x, -101);
        due("three points are left", x.cycle(-1, 0), 1);
        currents(x, 101);
        due("a and d are left: 101 is more than 100", x.cycle(-1, 0), 1);
        CellRows2 alike = row(1, 100, -40, 40, -100);
        due("three points are left", alike.cycle(-1, 0), 1);
        currents(alike, 100);
        due("a and d are left: 100 is 100", alike.cycle(-1, 0), 2);
        dueCycle("from d on", alike, 1, 100, 50000);
    }

    private static void fromTheLessOne() {
        sentence("of the range |b - c|, from the less one of them on");
        dueCycle("b is more", row(1, 100, -40, 40), 0, 40, 50060);
        dueCycle("c is more", row(-1, 100, -40, 40), 0, 40, 49900);
        CellRows2 low = new CellRows2(1);
        currents(low, -50000, 1, -1);
        dueCycle("the less one is 0", low, 0, 1, 0);
        CellRows2 lower = new CellRows2(1);
        currents(lower, -50001, 1, -1);
        dueCycle("the less one is below 0", lower, 0, 1, -1);
        CellRows2 far = new CellRows2(1);
        currents(far, 100000, -100000, 100000);
        dueCycle("the greatest step", far, 0, 100000, 50000);
    }

    private static void thenAgain() {
        sentence("b and c are taken out .. then again");
        CellRows2 x = row(1, 100, -80, 60, -40, 20);
        due("none so far", x.cycle(-1, 0), 0);
        currents(x, 19);
        due("39 of 40", x.cycle(-1, 0), 0);
        currents(x, 1);
        due("40 of 40: 40 alone", x.cycle(-1, 0), 1);
        currents(x, 20);
        due("80 of 80: the outer one as well", x.cycle(-1, 0), 2);
        dueCycle("the inner one first", x, 0, 40, 50040);
        dueCycle("the outer one behind it", x, 1, 80, 50020);
        CellRows2 three = row(-1, 100, -90, 80, -70, 60, -50, 200);
        due("three at once", three.cycle(-1, 0), 3);
        dueCycle("the innermost", three, 0, 50, 49920);
        dueCycle("the next", three, 1, 70, 49910);
        dueCycle("the outermost", three, 2, 90, 49900);
    }

    private static void againOnlyWhileItFits() {
        sentence("Whenever the last four points a, b, c, d are such that .. then again");
        CellRows2 x = row(1, 100, -80, 60, -40, 59);
        due("the inner one, and not the outer one", x.cycle(-1, 0), 1);
        dueCycle("the inner one", x, 0, 40, 50040);
        CellRows2 wide = row(1, 100, -101, 60, -40, 500);
        due("an outer one that is more than before", wide.cycle(-1, 0), 1);
        currents(wide, -1000);
        due("it stays none", wide.cycle(-1, 0), 1);
    }

    private static void rowBehindACycle() {
        sentence("one that goes on as the one before goes, or is the same, takes that one's place");
        CellRows2 x = row(1, 100, -40, 40, 0, 30);
        due("goes on behind a cycle", x.cycle(-1, 0), 1);
        currents(x, -130, 129);
        due("129 of 130", x.cycle(-1, 0), 1);
        currents(x, 1);
        due("130 of 130", x.cycle(-1, 0), 2);
        dueCycle("from where it went on to", x, 1, 130, 50000);
    }

    private static void lastPointAsItStands() {
        sentence("(The last point counts as it stands.");
        CellRows2 x = row(1, 100, -40, 39);
        due("39 of 40", x.cycle(-1, 0), 0);
        currents(x, 1);
        due("40 of 40, with no turn behind it", x.cycle(-1, 0), 1);
        CellRows2 moving = row(1, 100, -30);
        currents(moving, -10, 40);
        due("the last but one went on before", moving.cycle(-1, 0), 1);
        dueCycle("as it stood then", moving, 0, 40, 50060);
        currents(moving, -40, 40);
        due("again", moving.cycle(-1, 0), 2);
        dueCycle("again", moving, 1, 40, 50060);
    }

    private static void pointsUpTo500() {
        sentence("With 500 points one that turns is passed over.");
        int[] turns = {497, 498, 499};
        int[] cycles = {1, 1, 0};
        for (int i = 0; i < turns.length; i++) {
            CellRows2 x = new CellRows2(1);
            makeSmallerTurns(x, turns[i]);
            long last = x.charge(0);
            int range = 1000 - turns[i];
            int way = turns[i] % 2 == 1 ? -1 : 1;
            currents(x, way * range);
            due("a turn behind " + (turns[i] + 1) + " points", x.cycle(-1, 0), cycles[i]);
            due("its range", x.cycle(0, 0), cycles[i] == 1 ? range : -1);
            due("its less one", x.cycle(0, 1), cycles[i] == 1 ? Math.min(last, last + way * range) : -1);
        }
    }

    private static void passedOverAt500() {
        sentence("With 500 points one that turns is passed over.");
        CellRows2 x = new CellRows2(1);
        makeSmallerTurns(x, 498);
        currents(x, 501);
        due("the 500th is kept", x.cycle(-1, 0), 0);
        long last = x.charge(0);
        currents(x, -600, -1, 600);
        due("three are passed over", x.cycle(-1, 0), 0);
        currents(x, -5000);
        due("a great one is passed over, and takes no point's place", x.cycle(-1, 0), 0);
        currents(x, 5000);
        due("back below the 500th", x.cycle(-1, 0), 0);
        currents(x, 1);
        due("the same as the 500th", x.charge(0), last);
        due("the same as the 500th makes none", x.cycle(-1, 0), 0);
        currents(x, 1);
        due("from the 500th on: 502 of 502", x.cycle(-1, 0), 1);
        dueCycle("of the points before", x, 0, 502, last - 501);
    }

    private static void goesOnAt500() {
        sentence("With 500 points one that turns is passed over.");
        CellRows2 x = new CellRows2(1);
        makeSmallerTurns(x, 498);
        currents(x, 500, 1);
        due("500 and 1 more are 501", x.cycle(-1, 0), 0);
        currents(x, 0);
        due("the same takes the place of the 500th", x.cycle(-1, 0), 0);
        currents(x, 1);
        due("one that goes on takes the place of the 500th", x.cycle(-1, 0), 1);
        due("range", x.cycle(0, 0), 502);
    }

    private static void roomAgainBelow500() {
        sentence("With 500 points one that turns is passed over.");
        CellRows2 x = new CellRows2(1);
        makeSmallerTurns(x, 498);
        currents(x, 501, 1);
        due("a cycle leaves 498 points", x.cycle(-1, 0), 1);
        currents(x, -1, 1);
        due("the 499th and 500th are kept", x.cycle(-1, 0), 2);
        dueCycle("of them", x, 1, 1, x.charge(0) - 1);
        currents(x, -2, 1);
        due("500 points again", x.cycle(-1, 0), 2);
        currents(x, -1);
        due("one that turns is passed over again", x.cycle(-1, 0), 2);
    }

    private static void growingTurnsUpTo500() {
        sentence("With 500 points one that turns is passed over.");
        int[] turns = {497, 498, 499};
        int[] cycles = {1, 0, 0};
        for (int i = 0; i < turns.length; i++) {
            CellRows2 x = new CellRows2(1);
            for (int k = 1; k <= turns[i]; k++) {
                currents(x, k % 2 == 1 ? k : -k);
            }
            int way = turns[i] % 2 == 1 ? -1 : 1;
            currents(x, way);
            due(turns[i] + " growing turns and one by 1", x.cycle(-1, 0), 0);
            currents(x, -way);
            due(turns[i] + " growing turns and two by 1", x.cycle(-1, 0), cycles[i]);
        }
    }

    private static void passedOverIsAStepStill() {
        sentence("With 500 points one that turns is passed over.");
        CellRows2 x = new CellRows2(1);
        makeSmallerTurns(x, 499);
        long last = x.charge(0);
        due("a step to above the capacity", step(x, 0, -5001, 3700, 451), 1);
        due("its charge", x.charge(0), last - 5001);
        due("its warmth", x.cool(), 2);
    }
}
