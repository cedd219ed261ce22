/** What the tests share: calls that tell a throw as an answer, runs of steps, and the count of the wrong answers. */
abstract class Checks {

    /** What a call answers in these tests when the class throws the exception that the document names. */
    static final long THROWN = Long.MIN_VALUE + 77;
    /** The same exception, but thrown by the machine itself: no call may answer so. */
    static final long THROWN_BY_MACHINE = Long.MIN_VALUE + 78;

    /** Numbers of which there are none, whatever is numbered. */
    static final int[] FAR_NUMBERS = {-1, -2, 1000, Integer.MIN_VALUE, Integer.MAX_VALUE};

    private static int wrong = 0;
    private static String place = "";

    /** The words of the document that the next answers are due to. */
    static void sentence(String words) {
        place = words;
    }

    static void due(String call, long got, long want) {
        if (got != want) {
            tell(call, words(got), words(want));
        }
    }

    static void due(String call, double got, double want) {
        if (got != want) {
            tell(call, String.valueOf(got), String.valueOf(want));
        }
    }

    static void due(String call, String got, String want) {
        if (!got.equals(want)) {
            tell(call, got, want);
        }
    }

    private static void tell(String call, String got, String want) {
        wrong++;
        String before = place.isEmpty() ? "" : "\"" + place + "\": ";
        System.out.println(before + call + ": answered " + got + ", due is " + want);
    }

    private static String words(long answer) {
        if (answer == THROWN) {
            return "throws";
        }
        return answer == THROWN_BY_MACHINE ? "throws by the machine" : String.valueOf(answer);
    }

    static void end(String allIsWell) {
        System.out.println(wrong == 0 ? allIsWell : wrong + " answers are wrong");
        if (wrong != 0) {
            System.exit(1);
        }
    }

    static long step(CellRows2 x, int cell, long current, long volt, long warm) {
        try {
            return x.step(cell, current, volt, warm);
        } catch (ArrayIndexOutOfBoundsException e) {
            return thrown(e);
        }
    }

    static long whole(CellRows2 x, int cell, int side) {
        try {
            return x.whole(cell, side);
        } catch (ArithmeticException e) {
            return thrown(e);
        }
    }

    private static long thrown(RuntimeException e) {
        // The machine's own texts name an index or a zero divisor.
        String text = String.valueOf(e.getMessage());
        return text.startsWith("Index ") || text.equals("/ by zero") ? THROWN_BY_MACHINE : THROWN;
    }

    static void steps(CellRows2 x, int count) {
        for (int i = 0; i < count; i++) {
            due("a quiet step", step(x, 0, 0, 3600, 250), 0);
        }
    }

    static void currents(CellRows2 x, long... currents) {
        for (long current : currents) {
            long answer = step(x, 0, current, 3600, 250);
            due("a step by " + current + " is taken", answer >= 0 ? 1 : answer, 1);
        }
    }

    static void toPreCharge(CellRows2 x) {
        due("to the first contactor", x.contactor(true), 1);
        due("to the pre-charge", x.contactor(true), 2);
    }

    /** Ever smaller turns, by 999, 998 and so on, keep all their points: one more than there were turns. */
    static void makeSmallerTurns(CellRows2 x, int turns) {
        for (int k = 1; k <= turns; k++) {
            currents(x, k % 2 == 1 ? 1000 - k : k - 1000);
        }
    }
}
