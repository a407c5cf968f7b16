/** Promises 65 to 69: SESSIONS that are lived, means, MARKS. The draws are worked out by hand. */
public final class LifeTest {
    private static final String STAFF = "places 4;corner 1;party a least 2;party b;wants a corner worth 2;"
        + "article x takes 2;article y takes 3 x;article z takes 1 y;";

    public static void main(String[] args) {
        refused();
        draws();
        steps();
        missed();
        articlesInSessions();
        lastDays();
        tests();
        loops();
        threeHundred();
        livedStays();
        means();
        meansLeaveAll();
        marks();
        marksKeepAll();
        Check.close("LifeTest");
    }

    private static void lived(StandTable x, String what, int... due) {
        for (int i = 0; i < due.length; i++) {
            Check.due(x, what + ": lived(" + i + ")", x.lived(i), due[i], 0);
        }
    }

    private static void seats(StandTable x, String what, int... due) {
        for (int p = 0; p < due.length; p++) {
            Check.due(what + ": placeOf(" + p + ")", x.placeOf(p), due[p]);
        }
    }

    private static StandTable run(String committee, String sessions, int seed, int steps) {
        StandTable x = Check.table(committee, sessions);
        Check.due(x, "live(" + seed + ") of '" + sessions + "'", x.live(seed), steps, 0);
        return x;
    }

    private static void refused() {
        StandTable x = Check.table(STAFF, null);
        Check.refused(x, "live(0) without SESSIONS", x.live(0), 6);
        Check.refused(x, "live(10000) without SESSIONS", x.live(10000), 1);
        Check.refused(x, "live(-1) without SESSIONS", x.live(-1), 1);
        Check.refused(x, "lived(0) of none", x.lived(0), 6);
        Check.refused(x, "lived(4) of none", x.lived(4), 6);
        Check.refused(x, "lived(5)", x.lived(5), 1);
        Check.refused(x, "lived(-1)", x.lived(-1), 1);
        Check.refused(x, "mean(0,1) without SESSIONS", x.mean(0, 1), 6);
        Check.refused(x, "mean(0,0) without SESSIONS", x.mean(0, 0), 1);
        Check.sessions(x, "any;");
        Check.refused(x, "live(10000)", x.live(10000), 1);
        Check.refused(x, "live(-1)", x.live(-1), 1);
        Check.refused(x, "lived(0) of none yet", x.lived(0), 6);
        Check.due(x, "live(9999)", x.live(9999), 1, 0);
        Check.due(x, "live(0)", x.live(0), 1, 0);
        Check.refused(x, "lived(5)", x.lived(5), 1);
    }

    /** Seed 0 draws 1409, 8045, 2768, 4112; 1 draws 1792, 7804; 9999 draws 1613, 7984. */
    private static void draws() {
        StandTable x = run(STAFF, "any;", 0, 1);
        seats(x, "seed 0", -1, 1);
        x = run(STAFF, "any;any;", 0, 2);
        seats(x, "seed 0, twice", 0, 1);
        x = run(STAFF, "any;", 1, 1);
        seats(x, "seed 1", 0, -1);
        x = run(STAFF, "any;", 9999, 1);
        seats(x, "seed 9999", -1, 0);
        x = run("places 6;party a;party b;party c;party d;party e;", "any;any;", 0, 2);
        seats(x, "seed 0 of five", -1, -1, -1, 2, 5);
        x.live(0);
        lived(x, "where itself sits", 0, 0, 0, 0, 0);
        // a draw for who can't sit there is made all the same
        x = run("places 4;party a;party b;party c at 1;", "any;any;", 0, 2);
        seats(x, "seed 0 of three", -1, -1, 0);
        x = run("places 4;party a at 1;party b;", "any;any;", 0, 2);
        seats(x, "seed 0, a sits at 1", 0, -1);
        lived(x, "seed 0, a sits at 1", 1, 0, 0, 0, 0);
    }

    private static void steps() {
        StandTable x = run(STAFF, "sit a 3;sit b 0;turn 2;swap a b;rise b;sit b 3;", 5, 6);
        seats(x, "steps", 2, 3);
        lived(x, "steps", 0, 0, 0, 0, 0);
        x = run(STAFF, "sit a 3;stop;sit b 0;", 5, 2);
        seats(x, "stop", 3, -1);
        lived(x, "stop", 0, 0, 0, 0, 0);
        x = run(STAFF, "swap a b;sit a 3;swap a b;turn 9;", 5, 4);
        seats(x, "swap with one that stands", -1, 0);
        lived(x, "swap with one that stands", 1, 0, 0, 0, 0);
        x = run(STAFF, "", 5, 0);
        lived(x, "no steps", 0, 0, 0, 0, 0);
    }

    private static void missed() {
        String[] texts = {"sit a 0;sit b 0;", "rise a;", "swap a a;", "swap a b;", "sit a 1;swap a a;", "agree y;",
            "agree x;agree x;", "withdraw x;", "sit a 0;sit a 0;", "turn 0;"};
        int[] steps = {2, 1, 1, 1, 2, 1, 2, 1, 2, 1};
        int[] due = {1, 1, 1, 1, 1, 1, 1, 1, 0, 0};
        for (int i = 0; i < texts.length; i++) {
            StandTable x = run(STAFF, texts[i], 0, steps[i]);
            Check.due("missed in '" + texts[i] + "'", x.lived(0), due[i]);
        }
        StandTable x = run("places 4;", "any;any;turn 3;", 0, 3);
        lived(x, "any without PARTIES", 2, 0, 0, 0, 0);
        x = run("", "any;turn 3;day 2;", 0, 3);
        lived(x, "any without PLACES", 1, 2, 0, 0, 0);
    }

    private static void articlesInSessions() {
        StandTable x = run(STAFF, "day 3;agree y;day 1;withdraw x;agree x;day 4;", 0, 6);
        // x, y by hand, z; all three fall; x by hand, y in three days, z in one
        lived(x, "articles", 0, 8, 6, 3, 0);
        Check.due("told(8)", x.told(8), 7);
        Check.due("told(4)", x.told(4), 8);
        Check.due("worked at x", x.article(0, 3), 0);
        x = run(STAFF, "day 20;day 20;withdraw y;withdraw z;", 0, 4);
        lived(x, "articles", 1, 40, 3, 2, 0);
        Check.due("told(8)", x.told(8), 1);
    }

    private static void lastDays() {
        StandTable x = Check.table(STAFF, "day 2;day 1;day 1;");
        for (int i = 0; i < 100; i++) {
            x.day(99);
        }
        x.withdraw(0);
        x.day(98);
        x.withdraw(0);
        Check.due("told(4)", x.told(4), 9998);
        Check.due(x, "live(0)", x.live(0), 3, 0);
        lived(x, "beyond 9,999", 2, 1, 0, 0, 0);
        Check.due("told(4)", x.told(4), 9999);
        Check.due("worked at x", x.article(0, 3), 1);
    }

    private static void when(String test, boolean holds) {
        StandTable x = Check.table(STAFF, "when " + test + ";sit b 3;end;turn 0;");
        x.sit(0, 1);
        x.agree(0);
        Check.due(x, "live(0), when " + test, x.live(0), holds ? 3 : 2, 0);
        Check.due("placeOf(1), when " + test, x.placeOf(1), holds ? 3 : -1);
    }

    private static void tests() {
        when("signs a", true);
        when("signs b", true);
        when("agreed x", true);
        when("agreed y", false);
        when("all<2", false);
        when("all<3", true);
        when("all>2", false);
        when("all>1", true);
        when("all=2", true);
        when("all=1", false);
        when("all=3", false);
        StandTable x = run(STAFF, "when signs a;sit b 3;end;when all = 0;sit a 0;end;", 0, 3);
        seats(x, "a does not sign", 0, -1);
        // below 0
        x = Check.table(STAFF, "when all < 0;rise b;end;when all > 0;rise a;end;when all = 0;rise a;end;");
        x.sit(0, 1);
        x.sit(1, 2);
        x.value(0, -2);
        Check.due(x, "live(0), below 0", x.live(0), 4, 0);
        seats(x, "below 0", 1, -1);
        // a when in a when, one behind the other
        x = run(STAFF, "when signs b;when signs a;sit a 0;end;sit a 2;end;sit b 3;", 0, 4);
        seats(x, "a when in a when", 2, 3);
    }

    private static void loops() {
        StandTable x = run(STAFF, "sit a 0;loop 3;turn 1;end;", 0, 5);
        seats(x, "a loop", 3);
        x = run(STAFF, "loop 2;loop 3;end;end;", 0, 3);
        lived(x, "empty loops", 0, 0, 0, 0, 0);
        x = run(STAFF, "loop 99;end;loop 99;loop 99;loop 1;end;end;end;", 0, 300);
        lived(x, "empty loops within", 0, 0, 0, 0, 1);
        x = run(STAFF, "sit a 0;loop 2;loop 3;turn 1;end;turn 1;end;", 0, 12);
        seats(x, "a loop in a loop", 0);
        x = run(STAFF, "loop 3;day 1;when agreed x;stop;end;end;sit a 0;", 0, 6);
        seats(x, "stop in a loop", -1);
        lived(x, "stop in a loop", 0, 2, 1, 0, 0);
        x = run(STAFF, "loop 1;end;sit a 0;", 0, 2);
        seats(x, "behind an empty loop", 0);
        x = run(STAFF, "loop 4;when agreed x;withdraw x;end;when agreed y;end;agree x;end;", 0, 16);
        lived(x, "whens in a loop", 0, 0, 4, 3, 0);
    }

    private static void threeHundred() {
        StandTable x = run(STAFF, "loop 99;any;any;any;any;end;", 7, 300);
        Check.due("lived(4)", x.lived(4), 1);
        String just = "loop 13;" + "any;".repeat(23) + "end;";
        x = run(STAFF, just, 7, 300);
        Check.due("lived(4) of just 300", x.lived(4), 0);
        x = run(STAFF, just + "stop;", 7, 300);
        Check.due("lived(4) of 300 and a stop", x.lived(4), 1);
        x = run(STAFF, just + "when signs a;end;", 7, 300);
        Check.due("lived(4) of 300 and a when", x.lived(4), 1);
        x = run(STAFF, "loop 13;" + "any;".repeat(22) + "when signs a;end;end;", 7, 300);
        Check.due("lived(4) of 300, ends behind", x.lived(4), 0);
        x = run(STAFF, "loop 99;turn 1;turn 2;turn 1;end;stop;", 7, 299);
        Check.due("lived(4) of 299", x.lived(4), 0);
        x = run(STAFF, "loop 99;turn 1;turn 2;turn 1;end;any;any;stop;", 7, 300);
        Check.due("lived(4), stop is left", x.lived(4), 1);
        x = run(STAFF, "loop 99;turn 1;turn 2;turn 1;end;any;stop;any;", 7, 300);
        Check.due("lived(4), the 300th is stop", x.lived(4), 0);
        x = run("places 3;party a at 0;", "loop 99;loop 99;turn 1;end;end;", 7, 300);
        // four of the STEPS are loops come to from ahead, 296 are turns
        Check.due("lived(4), loops within", x.lived(4), 1);
        Check.due("296 turns", x.placeOf(0), 2);
    }

    private static void livedStays() {
        StandTable x = run(STAFF, "day 3;agree y;withdraw y;sit a 0;sit b 0;", 0, 5);
        lived(x, "lived", 1, 3, 2, 1, 0);
        x.live(10000);
        lived(x, "behind a live that could not be", 1, 3, 2, 1, 0);
        x.mean(0, 3);
        lived(x, "behind a mean", 1, 3, 2, 1, 0);
        x.mark();
        Check.committee(x, "");
        x.live(0);
        lived(x, "behind a new COMMITTEE", 1, 3, 2, 1, 0);
        x.undo();
        Check.sessions(x, "turn 1;");
        lived(x, "behind undo() and new SESSIONS", 1, 3, 2, 1, 0);
        x.live(0);
        lived(x, "behind live()", 0, 0, 0, 0, 0);
        Check.sessions(x, "loop 99;rise a;day 1;rise a;agree z;end;");
        x.live(0);
        lived(x, "behind one that is cut off", 222, 75, 2, 0, 1);
        Check.sessions(x, "turn 1;");
        x.live(0);
        lived(x, "behind the next", 0, 0, 0, 0, 0);
    }

    private static void mean(StandTable x, int seed, int many, long top, long bottom) {
        Check.due(x, "mean(" + seed + "," + many + ")", x.mean(seed, many), true, 0);
        Check.due("top() of mean(" + seed + "," + many + ")", x.top(), top);
        Check.due("bottom() of mean(" + seed + "," + many + ")", x.bottom(), bottom);
    }

    /** By seeds from 0 on a comes to sit at 2, 1, 0, 2, 1, 0, 0, 2; by 9998 at 0, by 9999 at 1. */
    private static void means() {
        StandTable x = Check.table("places 3;corner 0;party a;wants a corner worth 6;", "any;");
        mean(x, 0, 1, 0, 1);
        mean(x, 2, 1, 6, 1);
        mean(x, 0, 3, 2, 1);
        mean(x, 0, 4, 3, 2);
        mean(x, 5, 2, 6, 1);
        mean(x, 0, 8, 9, 4);
        mean(x, 9998, 1, 6, 1);
        mean(x, 9998, 2, 3, 1);
        mean(x, 9999, 1, 0, 1);
        x.value(0, -6);
        mean(x, 0, 4, -3, 2);
        mean(x, 2, 1, -6, 1);
        mean(x, 0, 2, 0, 1);
        Check.due(x, "mean(9980,20)", x.mean(9980, 20), true, 0);
        mean(x, 0, 4, -3, 2);
        int[][] wrong = {{-1, 1}, {10000, 1}, {0, 0}, {0, 21}, {0, -1}, {9999, 2}, {9981, 20},
            {0, Integer.MAX_VALUE}, {Integer.MAX_VALUE, 2}, {Integer.MIN_VALUE, 1}, {1, Integer.MIN_VALUE}};
        for (int[] v : wrong) {
            Check.refused(x, "mean(" + v[0] + "," + v[1] + ")", x.mean(v[0], v[1]), 1);
        }
        Check.due("top() stays", x.top(), -3);
        Check.due("bottom() stays", x.bottom(), 2);
        Check.sessions(x, "");
        x.sit(0, 0);
        mean(x, 0, 20, -6, 1);
    }

    private static void meansLeaveAll() {
        StandTable x = Check.table(STAFF, "sit a 1;day 4;agree x;turn 1;");
        x.sit(1, 3);
        x.mean(0, 20);
        Check.due("told(4)", x.told(4), 0);
        Check.due("told(8)", x.told(8), 0);
        Check.due("told(9)", x.told(9), 1);
        Check.due("worked at x", x.article(0, 3), 0);
        seats(x, "mean", -1, 3);
        Check.refused(x, "lived(0) of none", x.lived(0), 6);
        Check.due(x, "undo() of none", x.undo(), -1, 6);
        // each seed begins where the COMMITTEE is now: a at 2 is worth 0, turned on to 1 it is worth 2
        StandTable y = Check.table(STAFF, "turn 1;");
        y.sit(0, 0);
        mean(y, 0, 20, 2, 1);
    }

    private static void marks() {
        StandTable x = Check.table(STAFF, null);
        Check.refused(x, "undo() of none", x.undo(), 6);
        Check.due(x, "mark()", x.mark(), 1, 0);
        x.sit(0, 0);
        Check.due(x, "mark()", x.mark(), 2, 0);
        x.sit(0, 1);
        Check.due(x, "mark()", x.mark(), 3, 0);
        x.sit(0, 2);
        Check.refused(x, "a fourth mark()", x.mark(), 4);
        seats(x, "nothing changed", 2);
        Check.due(x, "undo()", x.undo(), 2, 0);
        seats(x, "the third", 1);
        Check.due(x, "undo()", x.undo(), 1, 0);
        seats(x, "the second", 0);
        x.sit(0, 3);
        Check.due(x, "mark() anew", x.mark(), 2, 0);
        x.sit(0, 2);
        Check.due(x, "undo()", x.undo(), 1, 0);
        seats(x, "anew", 3);
        Check.due(x, "undo()", x.undo(), 0, 0);
        seats(x, "the first", -1);
        Check.refused(x, "undo() of none left", x.undo(), 6);
        seats(x, "nothing changed", -1);
    }

    private static void marksKeepAll() {
        StandTable x = Check.table(STAFF, "any;turn 1;");
        x.tray(0, 0, 3);
        x.sit(1, 2);
        x.day(3);
        x.mark();
        x.insist(0, 9);
        x.value(0, -5);
        x.carve(3, true);
        x.carve(1, false);
        x.turn(1);
        x.day(7);
        x.withdraw(2);
        Check.sessions(x, "stop;");
        x.write(0, 1, 5);
        x.luck(0);
        Check.committee(x, "places 6;party p;party q at 5;wants q corner worth 3;article v takes 1 odds 3;");
        x.luck(0);
        Check.feed(x, "article a takes 0;");
        Check.due(x, "undo()", x.undo(), 0, 0);
        Check.due("least(0)", x.least(0), 2);
        Check.due("wish(0,3)", x.wish(0, 3), 2);
        Check.due("wish(0,0)", x.wish(0, 0), 0);
        int[] told = {4, 2, 1, 3, 3, 2, 2, 2, 1, 2};
        for (int what = 0; what <= 9; what++) {
            Check.due(x, "told(" + what + ")", x.told(what), told[what], 0);
        }
        seats(x, "undone", -1, 2);
        Check.due("article(1,3)", x.article(1, 3), 1);
        Check.due("article(0,1)", x.article(0, 1), 16);
        Check.due("article(2,2)", x.article(2, 2), 2);
        Check.due("the TRAY is not kept", x.read(0, 1), 5);
        Check.due("the FRACTION is not kept", x.top(), 3);
        Check.due("the FRACTION is not kept", x.bottom(), 16);
        Check.due("fault(0) is not kept", x.fault(0), 0);
        Check.due("the tape is not kept", x.committee(18), -1);
        Check.due("the text on it", x.status(), 9);
        // the names are those of the MARK, and the SESSIONS
        Check.due(x, "live(0)", x.live(0), 2, 0);
        seats(x, "lived", -1, 2);
        Check.due(x, "sessions with its names", Check.sessions(x, "rise b;agree z;"), 2, 0);
        Check.refused(x, "sessions with other names", Check.sessions(x, "rise p;"), 9);
        Check.due("fault(0)", x.fault(0), 3);
        // whom a WISH is of
        StandTable w = Check.table("places 4;party a at 0;party b at 2;party c at 1;wants a beside c worth 3;", null);
        w.mark();
        Check.committee(w, "places 5;party d;");
        w.undo();
        Check.due("wish(0,2)", w.wish(0, 2), 2);
        Check.due("worth(0)", w.worth(0), 3);
        // a MARK without SESSIONS has none
        StandTable y = Check.table(STAFF, null);
        y.mark();
        Check.sessions(y, "any;");
        y.undo();
        Check.refused(y, "live(0)", y.live(0), 6);
        // what is done behind undo() does not reach a MARK that is left
        StandTable z = Check.table(STAFF, null);
        z.mark();
        z.mark();
        z.undo();
        z.sit(0, 3);
        z.day(2);
        z.undo();
        Check.due("told(6)", z.told(6), 0);
        Check.due("told(8)", z.told(8), 0);
    }
}
