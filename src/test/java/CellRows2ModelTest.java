import java.math.BigInteger;
import java.util.ArrayList;
import java.util.Arrays;
import java.util.List;

/** Long mixed runs of calls, and long rows of turns, compared with a model that is written plainly on the Java library. */
public final class CellRows2ModelTest {

    private static final int CALLS = 512;

    private static int wrong = 0;
    private static long seed = 20260101;

    public static void main(String[] args) {
        for (int run = 0; run < 1500; run++) {
            compareRun(run);
        }
        for (int row = 0; row < 200; row++) {
            compareRow(row);
        }
        callsBehindTheLastEnd();
        System.out.println(wrong == 0 ? "class and model agree" : wrong + " differences");
        if (wrong != 0) {
            System.exit(1);
        }
    }

    private static void compareRun(int run) {
        int cells = run % 7 == 0 ? anyInt() : 1 + below(5);
        CellRows2 x = new CellRows2(cells);
        Model model = new Model(cells);
        int temper = run % 3;
        for (int call = 0; call < CALLS; call++) {
            Call c = Call.drawn(temper);
            String got = c.answerOf(x);
            String want = c.answerOf(model);
            if (!got.equals(want)) {
                same("run " + run + ", call " + call + ", " + c, got, want);
                return;
            }
        }
    }

    /** Turns up to about 500 points, then steps of any size: mixed runs never keep so many points. */
    private static void compareRow(int row) {
        long[] given = new long[CALLS - 1];
        int turns = 488 + below(12);
        boolean growing = row % 2 == 0;
        int way = row % 4 < 2 ? 1 : -1;
        for (int k = 0; k < given.length; k++) {
            long size = growing ? k + 1 : 600 - k;
            given[k] = k < turns ? (k % 2 == 0 ? way : -way) * size : between(-700, 700) / (1 + below(4));
        }
        Model model = new Model(1);
        for (long current : given) {
            model.step(0, current, 3600, 250);
        }
        int count = (int) model.cycle(-1, 0);
        compareCycle(row, given, model, -1, 0);
        for (int i = 0; i <= count; i++) {
            compareCycle(row, given, model, i, 0);
            compareCycle(row, given, model, i, 1);
        }
    }

    /** A new object for each question: behind 511 steps there is room for one call alone. */
    private static void compareCycle(int row, long[] given, Model model, int i, int what) {
        CellRows2 x = new CellRows2(1);
        for (long current : given) {
            x.step(0, current, 3600, 250);
        }
        same("row " + row + ", cycle(" + i + ", " + what + ")", "" + x.cycle(i, what), "" + model.cycle(i, what));
    }

    /** What later calls answer is free, but no call may throw by itself. */
    private static void callsBehindTheLastEnd() {
        CellRows2 x = new CellRows2(24);
        for (int call = 0; call < 20000; call++) {
            Call c = Call.drawn(call % 3);
            String got = c.answerOf(x);
            if (got.startsWith("throws.") && !c.mayThrow(got)) {
                same("call " + call + ", " + c, got, "no throw");
                return;
            }
        }
    }

    private static void same(String what, String got, String want) {
        if (!got.equals(want)) {
            wrong++;
            System.out.println(what + ": answered " + got + ", due is " + want);
        }
    }

    private static int below(int bound) {
        seed = seed * 6364136223846793005L + 1442695040888963407L;
        return (int) ((seed >>> 33) % bound);
    }

    private static int between(int least, int greatest) {
        return least + below(greatest - least + 1);
    }

    private static int anyInt() {
        int[] odd = {-1, 0, 1, 24, 25, 8, -2, Integer.MIN_VALUE, Integer.MAX_VALUE, 7, 23};
        return odd[below(odd.length)];
    }

    private static long oddLong() {
        long[] odd = {-1, 0, 1, 99, 100, -1000, -1001, 1000000, 1000001, 100000, 100001, -100000, -100001, 10000, 10001,
            2000, 2001, Long.MIN_VALUE, Long.MAX_VALUE, Integer.MAX_VALUE + 1L, 1L << 32};
        return odd[below(odd.length)];
    }

    /** One call of the face with its arguments. */
    private static final class Call {
        String name;
        int i;
        int j;
        boolean close;
        long[] v = new long[3];

        static Call drawn(int temper) {
            Call c = new Call();
            c.i = below(12) == 0 ? anyInt() : below(6);
            c.j = below(6) == 0 ? anyInt() : below(2);
            c.close = below(12) != 0;
            c.name = drawnName(temper);
            c.v[0] = temper == 0 ? between(-6000, 6000) : between(-300, 300);
            c.v[1] = between(temper == 2 ? 3000 : 2750, 4210);
            c.v[2] = between(-50, temper == 2 ? 590 : 620);
            if (c.name.equals("limit")) {
                c.v[0] = drawnLimit(c.i);
            } else if (c.name.equals("insulate")) {
                c.v[0] = between(90, 400);
            } else if (c.name.equals("cycle") && below(2) == 0) {
                c.i = -1;
                c.j = 0;
            }
            if (below(25) == 0) {
                c.v[below(3)] = oddLong();
            }
            return c;
        }

        private static String drawnName(int temper) {
            if (below(10) < 5) {
                return "step";
            }
            String[] usual = {"charge", "share", "whole", "contactor", "contactor", "contactor", "bleed", "bleed",
                "weakest", "cycle", "cycle", "cool", "fault", "fault"};
            String[] rare = {"limit", "insulate", "stuck"};
            return below(temper == 2 ? 40 : 10) == 0 ? rare[below(rare.length)] : usual[below(usual.length)];
        }

        private static long drawnLimit(int what) {
            long[] about = {2800, 4200, 600, 5000, 48000, 100000};
            if (what < 0 || what >= about.length || below(6) == 0) {
                return below(2) == 0 ? 0 : oddLong();
            }
            return about[what] + between(-200, 200);
        }

        String answerOf(CellRows2 x) {
            try {
                switch (name) {
                    case "step": return "" + x.step(i, v[0], v[1], v[2]);
                    case "charge": return "" + x.charge(i);
                    case "share": return "" + x.share(i);
                    case "whole": return "" + x.whole(i, j);
                    case "contactor": return "" + x.contactor(close);
                    case "bleed": return "" + x.bleed(i);
                    case "limit": return "" + x.limit(i, v[0]);
                    case "weakest": return "" + x.weakest();
                    case "insulate": return "" + x.insulate(v[0]);
                    case "stuck": return "" + x.stuck(i);
                    case "cycle": return "" + x.cycle(i, j);
                    case "cool": return "" + x.cool();
                    default: return "" + x.fault(i);
                }
            } catch (RuntimeException e) {
                // The machine's own texts name an index, a length or a zero divisor.
                String text = String.valueOf(e.getMessage());
                boolean machine = text.startsWith("Index") || text.equals("/ by zero");
                return "throws." + e.getClass().getSimpleName() + (machine ? " by the machine" : "");
            }
        }

        String answerOf(Model m) {
            switch (name) {
                case "step": return m.step(i, v[0], v[1], v[2]);
                case "charge": return m.has(i) ? "" + m.charge[i] : "0";
                case "share": return m.has(i) ? "" + m.share[i] : "0.0";
                case "whole": return m.whole(i, j);
                case "contactor": return "" + m.contactor(close);
                case "bleed": return "" + m.bleed(i);
                case "limit": return "" + m.limit(i, v[0]);
                case "weakest": return "" + m.weakest();
                case "insulate": return "" + m.insulate(v[0]);
                case "stuck": return "" + m.toggleStuck(i);
                case "cycle": return "" + m.cycle(i, j);
                case "cool": return "" + m.cool();
                default: return i >= 0 && i < m.faults.size() ? "" + m.faults.get(i) : "0";
            }
        }

        boolean mayThrow(String thrown) {
            return name.equals("step") && thrown.equals("throws.ArrayIndexOutOfBoundsException")
                || name.equals("whole") && thrown.equals("throws.ArithmeticException");
        }

        @Override
        public String toString() {
            return name + " " + i + " " + j + " " + close + " " + Arrays.toString(v);
        }
    }

    /** The document's words once more, with the whole history kept and gone through anew at each question. */
    private static final class Model {
        final int cells;
        final long[] charge;
        final double[] share;
        final long[] volt;
        final long[] warm;
        final int[] beyond;
        final boolean[] bleeds;
        final long[] limits = {2800, 4200, 600, 5000, 1000, 100000};
        final boolean[] stuck = new boolean[3];
        final List<Integer> faults = new ArrayList<>();
        final List<Long> history = new ArrayList<>();
        int stage = 0;
        int steps = 0;
        int stepsAtPreCharge = 0;

        Model(int asked) {
            cells = asked >= 1 && asked <= 24 ? asked : 8;
            charge = new long[cells];
            share = new double[cells];
            volt = new long[cells];
            warm = new long[cells];
            beyond = new int[cells];
            bleeds = new boolean[cells];
            Arrays.fill(charge, 50000);
            Arrays.fill(share, 0.5);
            Arrays.fill(volt, 3600);
            Arrays.fill(warm, 250);
        }

        boolean has(int cell) {
            return cell >= 0 && cell < cells;
        }

        String step(int cell, long current, long v, long w) {
            if (current < -100000 || current > 100000 || v < 0 || v > 10000 || w < -1000 || w > 2000) {
                return "-2";
            }
            if (!has(cell)) {
                return "throws.ArrayIndexOutOfBoundsException";
            }
            steps++;
            if (cell == 0 && history.isEmpty()) {
                history.add(charge[0]);
            }
            volt[cell] = v;
            warm[cell] = w;
            charge[cell] += current;
            if (bleeds[cell]) {
                charge[cell] -= 5;
            }
            if (cell == 0) {
                history.add(charge[0]);
            }
            double p = share[cell];
            if (limits[5] != 0) {
                p = p + (double) current / limits[5];
            }
            p = Math.max(0.0, Math.min(1.0, p));
            double t = Math.max(0.0, Math.min(1.0, (v - 3000) / 1200.0));
            share[cell] = p + 0.0625 * (t - p);
            boolean isBeyond = v < limits[0] || v > limits[1] || w > limits[2] || Math.abs(current) > limits[3];
            int before = faults.size();
            if (isBeyond) {
                beyond[cell]++;
                if (beyond[cell] % 2 == 0) {
                    raise(1);
                }
            } else {
                beyond[cell] = 0;
            }
            if (charge[cell] < 0 || charge[cell] > limits[5]) {
                raise(2);
            }
            return faults.size() > before ? "2" : isBeyond ? "1" : "0";
        }

        void raise(int kind) {
            faults.add(kind);
            stage = 0;
        }

        String whole(int cell, int side) {
            if (!has(cell)) {
                return "0";
            }
            if (limits[5] == 0) {
                return "throws.ArithmeticException";
            }
            BigInteger above = BigInteger.valueOf(charge[cell]);
            BigInteger below = BigInteger.valueOf(limits[5]);
            return (side == 0 ? above : below).divide(above.gcd(below)).toString();
        }

        int contactor(boolean close) {
            if (!close) {
                stage = 0;
                return 0;
            }
            int since = steps - stepsAtPreCharge;
            if (stage == 3 || stage == 2 && since < 3) {
                return -3;
            }
            if (stage == 2 && since >= 20) {
                raise(3);
                return 0;
            }
            if (stuck[stage]) {
                raise(4);
                return 0;
            }
            stage++;
            if (stage == 2) {
                stepsAtPreCharge = steps;
            }
            return stage;
        }

        int bleed(int cell) {
            if (!has(cell)) {
                return -1;
            }
            if (!bleeds[cell]
                && (charge[cell] < limits[4] || volt[cell] - Arrays.stream(volt).min().getAsLong() < 10)) {
                return -3;
            }
            bleeds[cell] = !bleeds[cell];
            int count = 0;
            for (boolean b : bleeds) {
                count += b ? 1 : 0;
            }
            return count;
        }

        int limit(int what, long v) {
            if (what < 0 || what > 5) {
                return -1;
            }
            if (v < -1000 || v > 1000000 || what == 5 && v < 0) {
                return -2;
            }
            limits[what] = v;
            return 1;
        }

        int weakest() {
            long least = Arrays.stream(charge).min().getAsLong();
            int cell = 0;
            while (charge[cell] != least) {
                cell++;
            }
            return cell;
        }

        int insulate(long v) {
            if (v < 0) {
                return -2;
            }
            if (v < 100) {
                raise(5);
                return 0;
            }
            return 1;
        }

        int toggleStuck(int contactor) {
            if (contactor < 0 || contactor > 2) {
                return -1;
            }
            stuck[contactor] = !stuck[contactor];
            return stuck[contactor] ? 1 : 0;
        }

        long cycle(int i, int what) {
            List<long[]> found = cyclesOfHistory();
            if (i == -1 && what == 0) {
                return found.size();
            }
            if (i < 0 || i >= found.size()) {
                return -1;
            }
            return what < 0 || what > 1 ? -2 : found.get(i)[what];
        }

        List<long[]> cyclesOfHistory() {
            List<Long> row = new ArrayList<>();
            List<long[]> found = new ArrayList<>();
            for (long next : history) {
                int n = row.size();
                int way = n < 1 ? 2 : Long.signum(next - row.get(n - 1));
                int wayBefore = n < 2 ? 3 : Long.signum(row.get(n - 1) - row.get(n - 2));
                if (way == 0 || way == wayBefore) {
                    row.set(n - 1, next);
                } else if (n < 500) {
                    row.add(next);
                }
                for (n = row.size(); n >= 4 && isCycle(row, n); n = row.size()) {
                    long c = row.remove(n - 2);
                    long b = row.remove(n - 3);
                    found.add(new long[] {Math.abs(b - c), Math.min(b, c)});
                }
            }
            return found;
        }

        static boolean isCycle(List<Long> row, int n) {
            long range = Math.abs(row.get(n - 3) - row.get(n - 2));
            return range <= Math.abs(row.get(n - 4) - row.get(n - 3)) && range <= Math.abs(row.get(n - 2) - row.get(n - 1));
        }

        int cool() {
            long most = Arrays.stream(warm).max().getAsLong();
            return most > 550 ? 3 : most > 450 ? 2 : most > 350 ? 1 : 0;
        }
    }
}
