/** Counts the answers that are not the due ones, and feeds texts to a StandTable. */
final class Check {
    private static int wrong = 0;
    private static int asked = 0;

    private Check() {
    }

    static void due(String what, long got, long want) {
        asked++;
        if (got != want) {
            wrong++;
            System.out.println(what + " answered " + got + ", due is " + want);
        }
    }

    static void due(String what, boolean got, boolean want) {
        due(what, got ? 1 : 0, want ? 1 : 0);
    }

    /** An answer and the STATUS that goes with it. */
    static void due(StandTable x, String what, long got, long want, int status) {
        due(what, got, want);
        due(what + " then status()", x.status(), status);
    }

    static void due(StandTable x, String what, boolean got, boolean want, int status) {
        due(x, what, got ? 1 : 0, want ? 1 : 0, status);
    }

    /** A call that is refused: NONE, or false, and the STATUS. */
    static void refused(StandTable x, String what, long got, int status) {
        due(x, what, got, StandTable.NONE, status);
    }

    static void refused(StandTable x, String what, boolean got, int status) {
        due(x, what, got, false, status);
    }

    static void feed(StandTable x, String text) {
        int[] ints = new int[5];
        for (int from = 0; from < text.length(); from += 20) {
            for (int i = 0; i < 5; i++) {
                ints[i] = 0;
                for (int k = 0; k < 4; k++) {
                    int at = from + 4 * i + k;
                    ints[i] = ints[i] << 8 | (at < text.length() ? text.charAt(at) & 255 : 0);
                }
            }
            x.feed(ints[0], ints[1], ints[2], ints[3], ints[4]);
        }
    }

    static int committee(StandTable x, String text) {
        feed(x, text);
        return x.committee(text.length());
    }

    static int sessions(StandTable x, String text) {
        feed(x, text);
        return x.sessions(text.length());
    }

    /** A new object with a COMMITTEE, and SESSIONS unless they are null. */
    static StandTable table(String committee, String sessions) {
        StandTable x = new StandTable();
        committee(x, committee);
        due("'" + committee + "' status()", x.status(), 0);
        if (sessions != null) {
            sessions(x, sessions);
            due("'" + sessions + "' status()", x.status(), 0);
        }
        return x;
    }

    /** A COMMITTEE for an object that is there. */
    static void table(StandTable x, String committee) {
        committee(x, committee);
        due("'" + committee + "' status()", x.status(), 0);
    }

    static void close(String test) {
        System.out.println(test + ": " + asked + " answers, " + wrong + " not as due");
        if (wrong != 0) {
            System.exit(1);
        }
    }
}
