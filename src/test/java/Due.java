/** Counts the answers that are not as due. */
final class Due {
    private static int wrong = 0;
    private static int asked = 0;

    private Due() {
    }

    static void is(String call, long got, long due) {
        asked++;
        if (got != due) {
            report(call + " answered " + got + ", due is " + due);
        }
    }

    static void holds(String what, boolean so) {
        asked++;
        if (!so) {
            report(what + " does not hold");
        }
    }

    /** The exact class counts: an exception of the machine is often a subclass of the due one. */
    static void refused(String call, Class<? extends RuntimeException> due, Runnable act) {
        asked++;
        try {
            act.run();
        } catch (RuntimeException thrown) {
            if (thrown.getClass() != due) {
                report(call + " threw " + thrown + ", due is " + due.getSimpleName());
            }
            return;
        }
        report(call + " threw nothing, due is " + due.getSimpleName());
    }

    static void index(String call, Runnable act) {
        refused(call, IndexOutOfBoundsException.class, act);
    }

    static void turn(String call, Runnable act) {
        refused(call, IllegalStateException.class, act);
    }

    static void range(String call, Runnable act) {
        refused(call, IllegalArgumentException.class, act);
    }

    static void meaning(String call, Runnable act) {
        refused(call, UnsupportedOperationException.class, act);
    }

    /** A piece of the plan by all that piece() tells of it. */
    static void piece(TapedShears x, int k, int wanted, int begin, int steps, int isCut) {
        is("piece(" + k + ", 0)", x.piece(k, 0), wanted);
        is("piece(" + k + ", 1)", x.piece(k, 1), begin);
        is("piece(" + k + ", 2)", x.piece(k, 2), steps);
        is("piece(" + k + ", 3)", x.piece(k, 3), isCut);
    }

    /** The whole plan: the loss, and of each piece what piece() tells of it. */
    static void plan(TapedShears x, int loss, int[]... pieces) {
        is("loss()", x.loss(), loss);
        is("pieces()", x.pieces(), pieces.length);
        for (int k = 0; k < pieces.length && k < x.pieces(); k++) {
            piece(x, k, pieces[k][0], pieces[k][1], pieces[k][2], pieces[k][3]);
        }
        index("a piece behind the last one", () -> x.piece(pieces.length, 0));
    }

    /**
     * A refused call leaves everything as it was. What is hidden until the next planning (the length, the
     * error) shows when the same crops are told again.
     */
    static void unchanged(TapedShears x, int head, int tail, Class<? extends RuntimeException> due, Runnable act) {
        String before = Shown.of(x);
        refused("the call", due, act);
        same("after the refusal", Shown.of(x), before);
        x.crop(head, tail);
        same("planned anew after the refusal", Shown.of(x), before);
    }

    static void same(String what, String got, String due) {
        asked++;
        if (!got.equals(due)) {
            report(what + ": " + got + ", due is " + due);
        }
    }

    static void end() {
        System.out.println(asked + " checks, " + wrong + " wrong");
        if (wrong != 0) {
            System.exit(1);
        }
    }

    private static void report(String text) {
        wrong++;
        if (wrong <= 40) {
            System.out.println(text + "  (" + caller() + ")");
        }
    }

    private static String caller() {
        for (StackTraceElement at : new Throwable().getStackTrace()) {
            if (!at.getClassName().equals("Due")) {
                return at.getFileName() + ":" + at.getLineNumber();
            }
        }
        return "?";
    }
}
