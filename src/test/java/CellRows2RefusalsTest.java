import java.util.ArrayList;
import java.util.Arrays;
import java.util.List;
import java.util.function.Consumer;
import java.util.function.ToLongFunction;

/**
 * "REFUSALS change nothing": two objects are brought into the same state, one of them is then refused a call, and both
 * are asked everything that could show a difference.
 */
public final class CellRows2RefusalsTest extends Checks {

    private static final int CELLS = 3;

    /** How to bring a new object into a state, and the calls that this state refuses. */
    private static final class State {
        final String name;
        final Consumer<CellRows2> reach;
        final List<Refused> refused = new ArrayList<>(refusedAlways());

        State(String name, Consumer<CellRows2> reach) {
            this.name = name;
            this.reach = reach;
        }

        State refuses(String name, ToLongFunction<CellRows2> call, long answer) {
            refused.add(new Refused(name, call, answer));
            return this;
        }
    }

    /** A call that is refused, or that names what there is none of, with the answer that is due. */
    private static final class Refused {
        final String name;
        final ToLongFunction<CellRows2> call;
        final long answer;

        Refused(String name, ToLongFunction<CellRows2> call, long answer) {
            this.name = name;
            this.call = call;
            this.answer = answer;
        }
    }

    /** A run of calls, told by all its answers in a row. */
    private static final class Run {
        final CellRows2 x;
        final List<String> answers = new ArrayList<>();

        Run(CellRows2 x) {
            this.x = x;
        }

        void tell(String name, long answer) {
            answers.add(name + " " + answer);
        }

        void tell(String name, double answer) {
            answers.add(name + " " + answer);
        }

        void step(int cell, long current, long volt, long warm) {
            tell("step", Checks.step(x, cell, current, volt, warm));
        }

        String answers() {
            return String.join(", ", answers);
        }
    }

    public static void main(String[] args) {
        sentence("REFUSALS change nothing");
        List<Consumer<Run>> askings = Arrays.asList(
            CellRows2RefusalsTest::askAll, CellRows2RefusalsTest::askContactors, CellRows2RefusalsTest::askOpening,
            CellRows2RefusalsTest::askRowsBeyond, CellRows2RefusalsTest::askLimits, CellRows2RefusalsTest::askBleeding,
            CellRows2RefusalsTest::askTurns, CellRows2RefusalsTest::askCharges);
        for (State state : states()) {
            for (Refused refused : state.refused) {
                for (Consumer<Run> asking : askings) {
                    compare(state, refused, asking);
                }
            }
        }
        end("refused calls change nothing");
    }

    private static void compare(State state, Refused refused, Consumer<Run> asking) {
        CellRows2 plain = new CellRows2(CELLS);
        CellRows2 disturbed = new CellRows2(CELLS);
        state.reach.accept(plain);
        state.reach.accept(disturbed);
        String name = state.name + ", " + refused.name;
        for (int time = 0; time < 3; time++) {
            due(name, refused.call.applyAsLong(disturbed), refused.answer);
        }
        Run want = new Run(plain);
        Run got = new Run(disturbed);
        asking.accept(want);
        asking.accept(got);
        due(name + ", then", got.answers(), want.answers());
    }

    private static List<Refused> refusedAlways() {
        List<Refused> all = new ArrayList<>(refusedSteps());
        all.add(new Refused("bleed(-1)", x -> x.bleed(-1), -1));
        all.add(new Refused("bleed(3)", x -> x.bleed(CELLS), -1));
        all.add(new Refused("limit(-1, 0)", x -> x.limit(-1, 0), -1));
        all.add(new Refused("limit(6, 0)", x -> x.limit(6, 0), -1));
        for (int i = 0; i < 6; i++) {
            int what = i;
            all.add(new Refused("limit(" + what + ", -1001)", x -> x.limit(what, -1001), -2));
            all.add(new Refused("limit(" + what + ", 1000001)", x -> x.limit(what, 1000001), -2));
        }
        all.add(new Refused("limit(5, -1)", x -> x.limit(5, -1), -2));
        all.add(new Refused("insulate(-1)", x -> x.insulate(-1), -2));
        all.add(new Refused("stuck(-1)", x -> x.stuck(-1), -1));
        all.add(new Refused("stuck(3)", x -> x.stuck(3), -1));
        all.add(new Refused("cycle(-2, 0)", x -> x.cycle(-2, 0), -1));
        all.add(new Refused("cycle(-1, 1)", x -> x.cycle(-1, 1), -1));
        all.add(new Refused("cycle(100, 0)", x -> x.cycle(100, 0), -1));
        all.add(new Refused("charge(3)", x -> x.charge(CELLS), 0));
        all.add(new Refused("share(-1)", x -> (long) x.share(-1), 0));
        all.add(new Refused("whole(3, 0)", x -> whole(x, CELLS, 0), 0));
        all.add(new Refused("fault(-1)", x -> x.fault(-1), 0));
        all.add(new Refused("fault(1000)", x -> x.fault(1000), 0));
        return all;
    }

    private static List<Refused> refusedSteps() {
        List<Refused> all = new ArrayList<>();
        for (int i = 0; i < CELLS; i++) {
            int cell = i;
            all.add(new Refused("current 100001", x -> step(x, cell, 100001, 2000, 999), -2));
            all.add(new Refused("current -100001", x -> step(x, cell, -100001, 2000, 999), -2));
            all.add(new Refused("volt -1", x -> step(x, cell, 9000, -1, 999), -2));
            all.add(new Refused("volt 10001", x -> step(x, cell, 9000, 10001, 999), -2));
            all.add(new Refused("warm -1001", x -> step(x, cell, 9000, 2000, -1001), -2));
            all.add(new Refused("warm 2001", x -> step(x, cell, 9000, 2000, 2001), -2));
        }
        all.add(new Refused("a step of cell 3", x -> step(x, CELLS, 9000, 2000, 999), THROWN));
        all.add(new Refused("a step of cell -1", x -> step(x, -1, 9000, 2000, 999), THROWN));
        return all;
    }

    private static List<State> states() {
        List<State> all = new ArrayList<>();
        all.add(new State("new", x -> { })
            .refuses("bleed(0)", x -> x.bleed(0), -3).refuses("bleed(2)", x -> x.bleed(2), -3));
        all.add(new State("stage 1, stuck", x -> {
            x.contactor(true);
            x.stuck(1);
        }));
        int[] tooFew = {0, 1, 2};
        for (int count : tooFew) {
            all.add(new State("pre-charge, " + count, x -> preCharge(x, count))
                .refuses("closing", x -> x.contactor(true), -3));
            all.add(new State("pre-charge and stuck, " + count, x -> {
                preCharge(x, count);
                x.stuck(2);
            }).refuses("closing", x -> x.contactor(true), -3));
        }
        int[] enough = {3, 19, 20};
        for (int count : enough) {
            all.add(new State("pre-charge, " + count, x -> preCharge(x, count)));
        }
        all.add(new State("all closed", x -> {
            preCharge(x, 3);
            x.contactor(true);
        }).refuses("closing", x -> x.contactor(true), -3));
        all.addAll(statesOfCells());
        return all;
    }

    private static List<State> statesOfCells() {
        List<State> all = new ArrayList<>();
        all.add(new State("beyond once", x -> step(x, 1, 5001, 4300, 620)));
        all.add(new State("faults", x -> {
            step(x, 1, -50001, 4300, 620);
            step(x, 1, 0, 4300, 620);
            x.insulate(7);
        }));
        all.add(new State("one bleeds", CellRows2RefusalsTest::oneBleeds)
            .refuses("bleed(0)", x -> x.bleed(0), -3).refuses("bleed(1)", x -> x.bleed(1), -3));
        all.add(new State("too little charge to bleed", x -> {
            oneBleeds(x);
            step(x, 1, -49001, 3700, 250);
        }).refuses("bleed(1)", x -> x.bleed(1), -3));
        all.add(new State("no capacity", x -> x.limit(5, 0))
            .refuses("whole(0, 0)", x -> whole(x, 0, 0), THROWN).refuses("whole(2, 1)", x -> whole(x, 2, 1), THROWN));
        all.add(new State("other limits", CellRows2RefusalsTest::otherLimits));
        all.add(new State("three points", x -> currents(x, 100, -40)));
        all.add(new State("a cycle", x -> currents(x, 100, -60, 50, -30, 39))
            .refuses("cycle(0, 2)", x -> x.cycle(0, 2), -2).refuses("cycle(0, -1)", x -> x.cycle(0, -1), -2)
            .refuses("cycle(1, 0)", x -> x.cycle(1, 0), -1).refuses("cycle(1, 2)", x -> x.cycle(1, 2), -1));
        return all;
    }

    private static void preCharge(CellRows2 x, int count) {
        toPreCharge(x);
        steps(x, count);
    }

    private static void oneBleeds(CellRows2 x) {
        step(x, 2, 10, 3650, 350);
        x.bleed(2);
        step(x, 1, 0, 3609, 351);
    }

    private static void otherLimits(CellRows2 x) {
        x.limit(0, 2801);
        x.limit(1, 4199);
        x.limit(2, 599);
        x.limit(3, 4999);
        x.limit(4, 50001);
        x.limit(5, 50001);
    }

    private static void askAll(Run run) {
        CellRows2 x = run.x;
        for (int cell = 0; cell < CELLS; cell++) {
            run.tell("charge", x.charge(cell));
            run.tell("share", x.share(cell));
            run.tell("above", whole(x, cell, 0));
            run.tell("below", whole(x, cell, 1));
        }
        for (int i = -1; i < 4; i++) {
            run.tell("range", x.cycle(i, 0));
            run.tell("less one", x.cycle(i, 1));
            run.tell("fault", x.fault(i));
        }
        run.tell("weakest", x.weakest());
        run.tell("cool", x.cool());
    }

    private static void askContactors(Run run) {
        for (int time = 0; time < 25; time++) {
            run.tell("closed", run.x.contactor(true));
            run.step(0, 0, 3600, 250);
        }
        askAll(run);
    }

    private static void askOpening(Run run) {
        run.tell("open", run.x.contactor(false));
        askContactors(run);
        for (int contactor = 0; contactor < 3; contactor++) {
            run.tell("stuck", run.x.stuck(contactor));
        }
        askAll(run);
    }

    private static void askRowsBeyond(Run run) {
        for (int time = 0; time < 3; time++) {
            for (int cell = 0; cell < CELLS; cell++) {
                run.step(cell, 0, 10000, 2000);
            }
        }
        askAll(run);
    }

    private static void askLimits(Run run) {
        long[][] quiet = {{0, 2799, 250}, {0, 2800, 250}, {0, 4200, 250}, {0, 4201, 250}, {0, 3600, 600},
            {0, 3600, 601}, {5000, 3600, 250}, {-5000, 3600, 250}, {5001, 3600, 250}, {-5001, 3600, 250}};
        for (long[] given : quiet) {
            run.step(1, given[0], given[1], given[2]);
            run.step(1, 0, 3600, 250);
        }
        run.tell("capacity", whole(run.x, 1, 1));
        run.step(1, 0, 3700, 250);
        run.step(1, 1000 - run.x.charge(1), 3700, 250);
        run.tell("bleed", run.x.bleed(1));
        run.step(1, -1, 3700, 250);
        run.tell("bleed", run.x.bleed(1));
        askAll(run);
    }

    private static void askBleeding(Run run) {
        for (int cell = 0; cell < CELLS; cell++) {
            run.tell("bleed", run.x.bleed(cell));
            run.step(cell, 0, 3660, 250);
            run.tell("bleed", run.x.bleed(cell));
        }
        askAll(run);
    }

    private static void askTurns(Run run) {
        long[] given = {20, -30, 40, -60, 5, -5, 200, -400, 400};
        for (long current : given) {
            run.step(0, current, 3600, 250);
            askAll(run);
        }
    }

    private static void askCharges(Run run) {
        for (int cell = 0; cell < CELLS; cell++) {
            run.step(cell, 11, 3500, 240);
            askAll(run);
        }
    }
}
