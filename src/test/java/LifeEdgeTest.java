import java.util.function.Consumer;

/** Each sentence on SESSIONS that are lived, MARKS and FRACTIONS that names an edge, with a test of its own (65 to 69). */
public final class LifeEdgeTest {
    private static final int MIN = Integer.MIN_VALUE;
    private static final int MAX = Integer.MAX_VALUE;
    private static final Consumer<StandTable> RICH = Twins::rich;
    private static final String STAFF = "places 4;corner 1;party a least 2;party b;wants a corner worth 2;"
        + "article x takes 2;article y takes 3 x;article z takes 1 y;";

    public static void main(String[] args) {
        liveByNoSuchSeed();
        liveWithoutSessions();
        liveOfNoSteps();
        allIsAsItIsThen();
        drawsOfEachSeed();
        theSeedBeginsAnewEachTime();
        sitWhereAnotherOneSits();
        riseOfWhoStands();
        swapOfOneAndItself();
        swapOfTwoThatStand();
        agreeThatCanNotBe();
        withdrawThatCanNotBe();
        daysBeyond9999();
        anyWhereAnotherOneSits();
        anyWithoutParties();
        turnIsNeverMissed();
        whenSigns();
        whenAgreed();
        whenAll();
        whenAllBelow0();
        whatIsSkipped();
        loopAsOften();
        loopWithinALoop();
        loopBegunAnew();
        aWhenWhereALoopWas();
        emptyLoops();
        stopStopsAll();
        whenAndLoopCountAsOneEach();
        exactly300();
        oneLeftBehind300();
        endsBehind300();
        stopIsNotLeft();
        livedOfNoSuchNumber();
        livedOfNone();
        livedOfTheLatest();
        livedCountsDays();
        livedCountsAgreedByDayToo();
        livedCountsWhatFell();
        meanOfNoSuchNumber();
        meanWithoutSessions();
        meanLeavesAll();
        meanBySeedsFromOneOn();
        meanWithoutACommonDivisor();
        meanBelow0();
        meanOf0();
        atMost3Marks();
        undoOfNone();
        undoTakesTheLatest();
        undoTakesBackAllThatBecame();
        undoTakesBackSessions();
        undoKeepsNotTheRest();
        committeeLeavesMarks();
        aMarkIsAsItWas();
        Check.close("LifeEdgeTest");
    }

    private static Consumer<StandTable> past(String committee, String sessions) {
        return x -> {
            Check.table(x, committee);
            Check.due("sessions '" + sessions + "'", Check.sessions(x, sessions) >= 0, true);
        };
    }

    private static StandTable live(String committee, String sessions, int steps, int... lived) {
        StandTable x = Check.table(committee, sessions);
        lives(x, sessions, steps, lived);
        return x;
    }

    private static void lives(StandTable x, String what, int steps, int... lived) {
        Check.due(x, "live(0) of '" + what + "'", x.live(0), steps, 0);
        for (int i = 0; i < lived.length; i++) {
            Check.due(x, "lived(" + i + ") of '" + what + "'", x.lived(i), lived[i], 0);
        }
    }

    private static void seats(StandTable x, String what, int... due) {
        for (int p = 0; p < due.length; p++) {
            Check.due(x, what + ": placeOf(" + p + ")", x.placeOf(p), due[p], due[p] < 0 ? 6 : 0);
        }
    }

    // ---- Promise 65: "LIVED: how many STEPS were done (1; 6: no SESSIONS)"

    private static void liveByNoSuchSeed() {
        for (int seed : new int[] {MIN, -1, 10000, 10001, MAX}) {
            Twins.refused("live(" + seed + ")", RICH, x -> x.live(seed), 1);
            Twins.refused("live(" + seed + ") without SESSIONS: 1 ahead of 6", Twins::none, x -> x.live(seed), 1);
        }
        StandTable x = Check.table(STAFF, "any;");
        Check.due(x, "live(0)", x.live(0), 1, 0);
        Check.due(x, "live(9999)", x.live(9999), 1, 0);
    }

    private static void liveWithoutSessions() {
        Consumer<StandTable> without = x -> {
            Twins.richButTheTape(x);
            Check.committee(x, STAFF);
        };
        Twins.refused("live(0) without SESSIONS", without, x -> x.live(0), 6);
        Twins.refused("live(9999) of none", Twins::none, x -> x.live(9999), 6);
    }

    private static void liveOfNoSteps() {
        live(STAFF, "", 0, 0, 0, 0, 0, 0);
        StandTable x = new StandTable();
        x.sessions(0);
        lives(x, "none on a new object", 0, 0, 0, 0, 0, 0);
    }

    /** "All is as it is then": it begins where the COMMITTEE is, and ends there. */
    private static void allIsAsItIsThen() {
        StandTable x = Check.table(STAFF, "turn 1;day 1;");
        x.sit(0, 3);
        for (int n = 1; n <= 7; n++) {
            Check.due(x, "live(0)", x.live(0), 2, 0);
            Check.due(x, "placeOf(0)", x.placeOf(0), (3 + n) % 4, 0);
            Check.due(x, "told(4)", x.told(4), n, 0);
            Check.due(x, "told(8)", x.told(8), n < 2 ? 0 : n < 5 ? 1 : n < 6 ? 3 : 7, 0);
        }
    }

    /** What is left of s times 3,061 and 11,279 by 65,536; the rest of s by 8, rounded down, by n. */
    private static void drawsOfEachSeed() {
        String[] names = {"a", "b", "c", "d", "e"};
        for (int seed = 0; seed < 10000; seed += seed == 9998 ? 1 : 7) {
            int parties = 1 + seed % 5;
            int places = Math.max(3, parties) + seed % 2;
            StringBuilder text = new StringBuilder("places " + places + ";");
            int[] due = new int[parties];
            for (int p = 0; p < parties; p++) {
                text.append("party ").append(names[p]).append(';');
                due[p] = -1;
            }
            long s = seed;
            int missed = 0;
            for (int n = 0; n < 4; n++) {
                s = (s * 3061 + 11279) % 65536;
                int party = (int) (s / 8 % parties);
                s = (s * 3061 + 11279) % 65536;
                int place = (int) (s / 8 % places);
                boolean free = true;
                for (int p = 0; p < parties; p++) {
                    free &= p == party || due[p] != place;
                }
                if (free) {
                    due[party] = place;
                } else {
                    missed++;
                }
            }
            StandTable x = Check.table(text.toString(), "loop 2;any;any;end;");
            Check.due(x, "live(" + seed + ")", x.live(seed), 5, 0);
            Check.due(x, "lived(0) by " + seed, x.lived(0), missed, 0);
            seats(x, "by " + seed, due);
        }
    }

    private static void theSeedBeginsAnewEachTime() {
        StandTable x = Check.table("places 6;party a;party b;party c;party d;party e;", "any;any;");
        x.live(5);
        int who = x.told(6);
        x.live(9);
        for (int p = 0; p < 5; p++) {
            x.rise(p);
        }
        x.live(5);
        Check.due(x, "who sits by 5 again", x.told(6), who, 0);
    }

    // ---- "What can't be is MISSED": it is done, counted, and changes nothing

    private static void sitWhereAnotherOneSits() {
        StandTable x = live(STAFF, "sit a 1;sit b 1;sit a 1;", 3, 1, 0, 0, 0, 0);
        seats(x, "sit", 1, -1);
    }

    private static void riseOfWhoStands() {
        StandTable x = live(STAFF, "rise a;sit a 0;rise a;rise a;", 4, 2, 0, 0, 0, 0);
        seats(x, "rise", -1, -1);
    }

    private static void swapOfOneAndItself() {
        live(STAFF, "swap a a;", 1, 1, 0, 0, 0, 0);
        StandTable x = live(STAFF, "sit a 3;swap a a;", 2, 1, 0, 0, 0, 0);
        seats(x, "swap a a", 3, -1);
    }

    private static void swapOfTwoThatStand() {
        live(STAFF, "swap a b;swap b a;", 2, 2, 0, 0, 0, 0);
        StandTable x = live(STAFF, "sit a 3;swap b a;", 2, 0, 0, 0, 0, 0);
        seats(x, "swap of one that stands", -1, 3);
    }

    private static void agreeThatCanNotBe() {
        live(STAFF, "agree y;", 1, 1, 0, 0, 0, 0);
        live(STAFF, "agree x;agree x;", 2, 1, 0, 1, 0, 0);
        live(STAFF, "agree x;agree z;agree y;", 3, 1, 0, 2, 0, 0);
    }

    private static void withdrawThatCanNotBe() {
        live(STAFF, "withdraw x;", 1, 1, 0, 0, 0, 0);
        live(STAFF, "agree x;withdraw y;withdraw x;withdraw x;", 4, 2, 0, 1, 1, 0);
    }

    /** "DAYS beyond 9,999 (as a whole)". */
    private static void daysBeyond9999() {
        StandTable x = Check.table(STAFF, "day 20;day 19;day 2;day 1;day 1;");
        for (int i = 0; i < 100; i++) {
            x.day(99);
        }
        x.day(80);
        x.withdraw(0);
        Check.due(x, "told(4)", x.told(4), 9980, 0);
        lives(x, "to 9,999", 5, 4, 19, 3, 0, 0);
        Check.due(x, "told(4)", x.told(4), 9999, 0);
        lives(x, "on 9,999", 5, 5, 0, 0, 0, 0);
        Check.due(x, "told(4)", x.told(4), 9999, 0);
    }

    /** Seed 0 draws of two PARTIES 1, of four PLACES 1, then 0 and 0. */
    private static void anyWhereAnotherOneSits() {
        StandTable x = Check.table("places 4;party a at 1;party b;", "any;");
        lives(x, "any", 1, 1, 0, 0, 0, 0);
        seats(x, "any where another one sits", 1, -1);
        StandTable y = Check.table("places 4;party a;party b at 1;", "any;");
        lives(y, "any", 1, 0, 0, 0, 0, 0);
        seats(y, "any where itself sits", -1, 1);
        StandTable z = Check.table("places 4;party a at 1;party b at 0;", "any;any;");
        lives(z, "any, any", 2, 2, 0, 0, 0, 0);
        seats(z, "any, any", 1, 0);
    }

    private static void anyWithoutParties() {
        live("places 3;", "any;any;", 2, 2, 0, 0, 0, 0);
        live("", "any;", 1, 1, 0, 0, 0, 0);
    }

    private static void turnIsNeverMissed() {
        live("", "turn 0;turn 9;", 2, 0, 0, 0, 0, 0);
        StandTable x = live(STAFF, "sit a 3;turn 9;turn 0;", 3, 0, 0, 0, 0, 0);
        seats(x, "turn", 0, -1);
    }

    // ---- TESTS

    private static void when(String test, Consumer<StandTable> how, boolean is) {
        StandTable x = Check.table(STAFF, "when " + test + ";agree x;end;");
        how.accept(x);
        lives(x, "when " + test, is ? 2 : 1, is && x.told(8) == 1 ? 1 : 0);
        Check.due("told(8), when " + test, x.told(8) & 1, is ? 1 : 0);
    }

    private static void whenSigns() {
        when("signs a", x -> { }, false);
        when("signs b", x -> { }, true);
        when("signs a", x -> x.sit(0, 1), true);
        when("signs a", x -> x.sit(0, 2), false);
        when("signs b", x -> x.insist(1, 1), false);
    }

    private static void whenAgreed() {
        StandTable x = Check.table(STAFF, "when agreed x;sit a 0;end;when agreed y;sit b 1;end;");
        lives(x, "none AGREED", 2, 0);
        seats(x, "none AGREED", -1, -1);
        x.agree(0);
        lives(x, "x AGREED", 3, 0);
        seats(x, "x AGREED", 0, -1);
        x.agree(1);
        lives(x, "x, y AGREED", 4, 0);
        seats(x, "x, y AGREED", 0, 1);
    }

    private static void whenAll() {
        Consumer<StandTable> worth2 = x -> x.sit(0, 1);
        when("all < 2", worth2, false);
        when("all < 3", worth2, true);
        when("all > 2", worth2, false);
        when("all > 1", worth2, true);
        when("all = 2", worth2, true);
        when("all = 1", worth2, false);
        when("all = 3", worth2, false);
        when("all = 0", x -> { }, true);
        when("all < 999", x -> { }, true);
        when("all > 999", x -> { }, false);
        for (int worth = -2; worth <= 9; worth++) {
            int is = worth;
            Consumer<StandTable> how = x -> {
                x.sit(0, is == 0 ? 0 : 1);
                x.value(0, is == 0 ? 1 : is);
            };
            for (int n = 0; n <= 10; n++) {
                when("all < " + n, how, worth < n);
                when("all > " + n, how, worth > n);
                when("all = " + n, how, worth == n);
            }
        }
    }

    /** "It may be below 0". */
    private static void whenAllBelow0() {
        Consumer<StandTable> below = x -> {
            x.sit(0, 1);
            x.value(0, -1);
        };
        when("all < 0", below, true);
        when("all = 0", below, false);
        when("all > 0", below, false);
        when("all = 1", below, false);
    }

    /** What stands in a when that is not so is skipped up to its own end. */
    private static void whatIsSkipped() {
        StandTable x = live(STAFF, "when signs a;loop 2;when signs b;sit b 0;end;end;sit b 1;end;sit a 3;", 2, 0);
        seats(x, "skipped", 3, -1);
        live(STAFF, "when signs a;end;when signs b;end;", 2, 0);
        live(STAFF, "when signs a;stop;end;day 1;", 2, 0, 1, 0, 0, 0);
    }

    // ---- loop

    /** "Loop n (1 to 99): as often." */
    private static void loopAsOften() {
        for (int n = 1; n <= 99; n++) {
            StandTable x = live(STAFF, "sit a 0;loop " + n + ";turn 1;end;", n + 2, 0, 0, 0, 0, 0);
            seats(x, "loop " + n, n % 4, -1);
        }
    }

    private static void loopWithinALoop() {
        live(STAFF, "loop 3;loop 4;day 1;end;day 1;end;", 1 + 3 * (1 + 4 + 1), 0, 15);
        live(STAFF, "loop 2;loop 3;loop 4;day 1;end;end;end;", 1 + 2 * (1 + 3 * (1 + 4)), 0, 24);
        live(STAFF, "loop 2;when agreed x;end;loop 2;day 1;end;end;", 1 + 2 * (1 + 1 + 2), 0, 4);
    }

    /** A loop that is come to again runs as often again. */
    private static void loopBegunAnew() {
        StandTable x = Check.table(STAFF, "loop 5;day 1;end;");
        lives(x, "a loop", 6, 0, 5);
        lives(x, "a loop", 6, 0, 5);
        StandTable y = Check.table(STAFF, "loop 3;day 1;when agreed x;stop;end;end;");
        lives(y, "a loop that is left", 6, 0, 2);
        lives(y, "a loop that is left", 4, 0, 1);
    }

    /** Where a loop of old SESSIONS was left in its midst a when stands now. */
    private static void aWhenWhereALoopWas() {
        StandTable x = Check.table(STAFF, "loop 9;stop;end;");
        lives(x, "a loop that is left", 2, 0, 0);
        Check.sessions(x, "when signs b;day 1;end;");
        lives(x, "a when where a loop was", 2, 0, 1);
        StandTable y = Check.table(STAFF, "loop 99;day 1;day 1;day 1;day 1;end;");
        lives(y, "a loop that is cut off", 300, 0, 299);
        Check.sessions(y, "when signs b;day 1;end;");
        lives(y, "a when where a loop was cut off", 2, 0, 1);
    }

    private static void emptyLoops() {
        live(STAFF, "loop 99;end;", 1, 0, 0, 0, 0, 0);
        live(STAFF, "loop 99;loop 2;end;end;", 100, 0, 0, 0, 0, 0);
        live(STAFF, "loop 1;when signs a;end;end;", 2, 0, 0, 0, 0, 0);
    }

    private static void stopStopsAll() {
        StandTable x = live(STAFF, "loop 9;when signs b;loop 9;stop;end;end;sit a 0;end;sit a 1;", 4, 0, 0, 0, 0, 0);
        seats(x, "stop", -1, -1);
        live(STAFF, "stop;", 1, 0, 0, 0, 0, 0);
        live(STAFF, "stop;stop;", 1, 0, 0, 0, 0, 0);
    }

    // ---- "At most 300 STEPS (when, loop count as one each time they are come to from ahead; end does not)"

    private static void whenAndLoopCountAsOneEach() {
        live(STAFF, "loop 4;when signs a;end;when signs b;end;end;", 9, 0, 0, 0, 0, 0);
        live(STAFF, "loop 99;loop 1;end;when signs a;end;end;", 199, 0, 0, 0, 0, 0);
    }

    /** 1 and 99 times 3, 298 STEPS; then two more. */
    private static final String NEAR = "loop 99;day 1;day 1;when signs a;end;end;";

    private static void exactly300() {
        live(STAFF, NEAR, 298, 0, 198, 3, 0, 0);
        live(STAFF, NEAR + "day 1;", 299, 0, 199, 3, 0, 0);
        live(STAFF, NEAR + "day 1;day 1;", 300, 0, 200, 3, 0, 0);
    }

    /** "4: 1 if a STEP was left to be done (by the 300 alone, ..)". */
    private static void oneLeftBehind300() {
        live(STAFF, NEAR + "day 1;day 1;day 1;", 300, 0, 200, 3, 0, 1);
        live(STAFF, NEAR + "day 1;day 1;when signs a;end;", 300, 0, 200, 3, 0, 1);
        live(STAFF, NEAR + "day 1;day 1;loop 1;end;", 300, 0, 200, 3, 0, 1);
        live(STAFF, NEAR + "day 1;day 1;stop;", 300, 0, 200, 3, 0, 1);
        live(STAFF, NEAR + "day 1;loop 2;day 1;end;", 300, 0, 199, 3, 0, 1);
        live(STAFF, NEAR + "loop 2;day 1;end;", 300, 0, 199, 3, 0, 1);
    }

    /** "End does not": behind the 300th STEP ends alone are left, of a loop that runs on, too. */
    private static void endsBehind300() {
        live(STAFF, NEAR + "loop 1;day 1;end;", 300, 0, 199, 3, 0, 0);
        live(STAFF, NEAR + "day 1;loop 99;end;", 300, 0, 199, 3, 0, 0);
        live(STAFF, NEAR + "day 1;when signs b;end;", 300, 0, 199, 3, 0, 0);
        live(STAFF, NEAR + "day 1;when signs a;day 1;end;", 300, 0, 199, 3, 0, 0);
        live(STAFF, NEAR + "day 1;when signs b;day 1;end;", 300, 0, 199, 3, 0, 1);
    }

    /** ".. not by stop". */
    private static void stopIsNotLeft() {
        live(STAFF, NEAR + "day 1;stop;day 1;", 300, 0, 199, 3, 0, 0);
        live(STAFF, NEAR + "stop;day 1;day 1;day 1;", 299, 0, 198, 3, 0, 0);
    }

    // ---- Promise 66: lived

    private static void livedOfNoSuchNumber() {
        for (int what : new int[] {MIN, -1, 5, 6, MAX}) {
            Twins.refused("lived(" + what + ")", RICH, x -> x.lived(what), 1);
            Twins.refused("lived(" + what + ") of none: 1 ahead of 6", Twins::none, x -> x.lived(what), 1);
        }
    }

    /** "6: there was none". */
    private static void livedOfNone() {
        for (int what = 0; what <= 4; what++) {
            int w = what;
            Twins.refused("lived(" + what + ") of none", Twins::none, x -> x.lived(w), 6);
            Twins.refused("lived(" + what + ") behind those that could not be", x -> {
                Check.table(x, STAFF);
                x.live(0);
                Check.sessions(x, "day 3;");
                x.live(-1);
                x.live(10000);
                x.mean(0, 2);
            }, x -> x.lived(w), 6);
        }
    }

    /** "Of live() latest with STATUS 0 (whatever came behind it)". */
    private static void livedOfTheLatest() {
        StandTable x = Check.table(STAFF, "day 5;withdraw x;agree x;agree z;loop 99;day 1;day 1;day 1;end;");
        x.mark();
        lives(x, "the first", 300, 1, 300, 5, 2, 1);
        int[] due = {1, 300, 5, 2, 1};
        x.live(-1);
        x.mean(0, 1);
        x.undo();
        x.committee(0);
        x.live(0);
        x.sessions(0);
        for (int what = 0; what <= 4; what++) {
            Check.due(x, "lived(" + what + ") whatever came behind it", x.lived(what), due[what], 0);
        }
        lives(x, "the second", 0, 0, 0, 0, 0, 0);
    }

    private static void livedCountsDays() {
        live(STAFF, "day 20;day 1;", 2, 0, 21, 3, 0, 0);
        live("", "day 20;", 1, 0, 20, 0, 0, 0);
    }

    /** "2: ARTICLES that were AGREED (by day, too)". */
    private static void livedCountsAgreedByDayToo() {
        live(STAFF, "agree x;", 1, 0, 0, 1, 0, 0);
        live(STAFF, "day 1;", 1, 0, 1, 0, 0, 0);
        live(STAFF, "day 2;agree y;day 1;", 3, 0, 3, 3, 0, 0);
        live(STAFF, "agree x;withdraw x;day 2;", 3, 0, 2, 2, 1, 0);
    }

    /** "3: ARTICLES that fell": those that fell with it, too. */
    private static void livedCountsWhatFell() {
        live(STAFF, "day 6;withdraw x;", 2, 0, 6, 3, 3, 0);
        live(STAFF, "day 6;withdraw y;", 2, 0, 6, 3, 2, 0);
        live(STAFF, "day 6;withdraw z;withdraw x;", 3, 0, 6, 3, 3, 0);
    }

    // ---- Promise 67: mean

    private static void meanOfNoSuchNumber() {
        for (int seed : new int[] {MIN, -1, 10000, MAX}) {
            Twins.denied("mean(" + seed + ",1)", RICH, x -> x.mean(seed, 1), 1);
        }
        for (int many : new int[] {MIN, -1, 0, 21, 22, MAX}) {
            Twins.denied("mean(0," + many + ")", RICH, x -> x.mean(0, many), 1);
        }
        // "the last above 9,999, too"
        Twins.denied("mean(9999,2)", RICH, x -> x.mean(9999, 2), 1);
        Twins.denied("mean(9981,20)", RICH, x -> x.mean(9981, 20), 1);
        Twins.denied("mean(9990,11)", RICH, x -> x.mean(9990, 11), 1);
        StandTable x = new StandTable();
        Twins.rich(x);
        Check.due(x, "mean(9999,1)", x.mean(9999, 1), true, 0);
        Check.due(x, "mean(9998,2)", x.mean(9998, 2), true, 0);
        Check.due(x, "mean(9980,20)", x.mean(9980, 20), true, 0);
        Check.due(x, "mean(0,1)", x.mean(0, 1), true, 0);
        Check.due(x, "mean(0,20)", x.mean(0, 20), true, 0);
    }

    private static void meanWithoutSessions() {
        Twins.denied("mean(0,1) without SESSIONS", Twins::none, x -> x.mean(0, 1), 6);
        Twins.denied("mean(0,0) without SESSIONS: 1 ahead of 6", Twins::none, x -> x.mean(0, 0), 1);
        Twins.denied("mean(9999,2) without SESSIONS: 1 ahead of 6", Twins::none, x -> x.mean(9999, 2), 1);
    }

    /** "All stays as it is". */
    private static void meanLeavesAll() {
        Consumer<StandTable> past = x -> {
            RICH.accept(x);
            x.mean(3, 20);
        };
        Twins.leaves("mean(3,20)", past, x -> x.mean(3, 20) ? 1 : 0, 1, 0);
        Twins.leaves("mean(22,1), the last of them", x -> {
            RICH.accept(x);
            x.mean(22, 1);
        }, x -> x.mean(22, 1) ? 1 : 0, 1, 0);
    }

    private static long worthBy(Consumer<StandTable> past, int seed) {
        StandTable x = new StandTable();
        past.accept(x);
        x.live(seed);
        return x.allWorth();
    }

    private static void meanBySeedsFromOneOn() {
        Consumer<StandTable> past = past("places 5;corner 1;corner 2;party a at 4;party b;party c at 0;"
            + "wants a corner worth 5;shuns b beside a worth 3;wants c facing b worth 9;wants b beside c worth 7;",
            "any;any;turn 1;any;");
        for (int seed = 0; seed <= 9980; seed += 499) {
            long sum = 0;
            StandTable x = new StandTable();
            past.accept(x);
            for (int many = 1; many <= 20; many++) {
                sum += worthBy(past, seed + many - 1);
                Check.due(x, "mean(" + seed + "," + many + ")", x.mean(seed, many), true, 0);
                Check.due("mean(" + seed + "," + many + ") is the sum by " + many, x.top() * many, sum * x.bottom());
                Check.due("bottom() of mean", x.bottom() > 0 && x.bottom() <= many, true);
                Check.due("without a common divisor", divisor(Math.abs(x.top()), x.bottom()), 1);
            }
        }
    }

    private static long divisor(long a, long b) {
        return b == 0 ? a : divisor(b, a % b);
    }

    private static void mean(String what, Consumer<StandTable> past, int seed, int many, long top, long bottom) {
        StandTable x = new StandTable();
        past.accept(x);
        x.told(-1);
        Check.due(x, "mean(" + seed + "," + many + ") " + what, x.mean(seed, many), true, 0);
        Check.due("top() " + what, x.top(), top);
        Check.due("bottom() " + what, x.bottom(), bottom);
    }

    /** By seeds from 0 on a comes to sit at 2, 1, 0, 2, 1, 0, 0, 2 of three. */
    private static void meanWithoutACommonDivisor() {
        Consumer<StandTable> six = past("places 3;corner 0;party a;wants a corner worth 6;", "any;");
        mean("of 0 0 6 0", six, 0, 4, 3, 2);
        mean("of 0 0 6", six, 0, 3, 2, 1);
        mean("of 6", six, 2, 1, 6, 1);
        mean("of 0 0 6 0 0 6 6 0", six, 0, 8, 9, 4);
    }

    private static void meanBelow0() {
        Consumer<StandTable> shy = past("places 3;corner 0;party a;shuns a corner worth 6;", "any;");
        mean("of 0 0 -6 0", shy, 0, 4, -3, 2);
        mean("of -6", shy, 2, 1, -6, 1);
        Consumer<StandTable> one = past("places 3;corner 0;party a at 0;shuns a corner worth 1;", "");
        mean("of -1", one, 0, 20, -1, 1);
    }

    /** "0 is 0 by 1". */
    private static void meanOf0() {
        Consumer<StandTable> none = past("places 3;party a;", "any;");
        mean("of 0", none, 0, 1, 0, 1);
        mean("of 0 20 times", none, 0, 20, 0, 1);
        Consumer<StandTable> bare = x -> {
            x.luck(0);
            x.sessions(0);
        };
        mean("of none", bare, 0, 20, 0, 1);
    }

    // ---- Promises 68, 69: mark, undo

    /** "MARKS, at most 3"; "4". */
    private static void atMost3Marks() {
        Consumer<StandTable> three = x -> {
            Check.table(x, STAFF);
            for (int n = 1; n <= 3; n++) {
                Check.due(x, "mark() " + n, x.mark(), n, 0);
                x.sit(0, n);
            }
        };
        Twins.refused("a fourth mark()", three, x -> x.mark(), 4);
        StandTable x = new StandTable();
        three.accept(x);
        Check.refused(x, "a fourth mark()", x.mark(), 4);
        for (int n = 2; n >= 0; n--) {
            Check.due(x, "undo()", x.undo(), n, 0);
            seats(x, "undo() to " + n, n == 0 ? -1 : n);
        }
        Check.refused(x, "undo() of none left", x.undo(), 6);
        Check.due(x, "mark() anew", x.mark(), 1, 0);
        StandTable none = new StandTable();
        Check.due(none, "mark() of a new object", none.mark(), 1, 0);
    }

    private static void undoOfNone() {
        Twins.refused("undo() of none", Twins::none, x -> x.undo(), 6);
        Twins.refused("undo() of none left", x -> {
            RICH.accept(x);
            x.undo();
        }, x -> x.undo(), 6);
    }

    /** "All is taken back to the latest MARK, which is gone then". */
    private static void undoTakesTheLatest() {
        Consumer<StandTable> past = x -> {
            Check.table(x, STAFF);
            x.mark();
            x.sit(0, 1);
            x.mark();
            x.sit(0, 2);
        };
        Twins.comesTo("undo()", past, x -> x.undo(), 1, x -> {
            x.undo();
            x.mark();
            x.sit(0, 3);
            x.undo();
        });
        StandTable x = new StandTable();
        past.accept(x);
        x.undo();
        seats(x, "the latest", 1);
        x.undo();
        seats(x, "the first", -1);
    }

    /** "The COMMITTEE with all that became of it": seats, LEASTS, WORTHS, CORNERS, days, what is AGREED, the DAY. */
    private static void undoTakesBackAllThatBecame() {
        Consumer<StandTable> past = x -> {
            RICH.accept(x);
            x.mark();
        };
        Twins.comesTo("undo()", past, x -> {
            x.sit(2, 0);
            x.rise(0);
            x.turn(1);
            x.insist(1, 9);
            x.value(2, -9);
            x.carve(3, true);
            x.carve(1, false);
            x.day(20);
            x.withdraw(1);
            return x.undo();
        }, 1, x -> x.undo());
        Twins.comesTo("undo() of what was just marked", RICH, x -> {
            x.mark();
            return x.undo();
        }, 1, x -> x.told(0));
    }

    private static void undoTakesBackSessions() {
        StandTable x = Check.table(STAFF, null);
        x.mark();
        Check.sessions(x, "any;any;");
        x.mark();
        Check.sessions(x, "stop;");
        Check.due(x, "undo()", x.undo(), 1, 0);
        Check.due(x, "live(0)", x.live(0), 2, 0);
        Check.due(x, "undo()", x.undo(), 0, 0);
        Check.refused(x, "live(0) without SESSIONS", x.live(0), 6);
    }

    /** "TRAYS, the tape, the FRACTION, what lived() tells are not kept". */
    private static void undoKeepsNotTheRest() {
        StandTable x = Check.table(STAFF, "day 1;");
        x.tray(0, 0, 1);
        x.mean(0, 1);
        x.live(0);
        x.mark();
        x.write(0, 0, 5);
        x.tray(1, 3, 2);
        Check.table(x, "article a takes 1 odds 3;");
        x.luck(0);
        Check.sessions(x, "day 7;");
        x.live(0);
        Check.sessions(x, "end;");
        Check.feed(x, "places 6;");
        Check.due(x, "undo()", x.undo(), 0, 0);
        Check.due(x, "read(0,0)", x.read(0, 0), 5, 0);
        Check.due(x, "read(1,1)", x.read(1, 1), 0, 0);
        Check.due("top()", x.top(), 3);
        Check.due("bottom()", x.bottom(), 16);
        Check.due(x, "lived(1)", x.lived(1), 7, 0);
        Check.due("fault(0)", x.fault(0), 2);
        Check.due("fault(1)", x.fault(1), 0);
        Check.due("told(0)", x.told(0), 4);
        Check.due(x, "the tape", x.committee(9), 0, 0);
        Check.due("told(0) by the tape", x.told(0), 6);
    }

    private static void committeeLeavesMarks() {
        StandTable x = Check.table(STAFF, null);
        x.mark();
        x.sit(0, 0);
        x.mark();
        Check.table(x, "places 5;");
        Check.table(x, "places 6;");
        Check.due(x, "a third mark()", x.mark(), 3, 0);
        Check.table(x, "");
        Check.due(x, "undo()", x.undo(), 2, 0);
        Check.due("told(0)", x.told(0), 6);
        Check.due(x, "undo()", x.undo(), 1, 0);
        Check.due("told(0)", x.told(0), 4);
        seats(x, "the second", 0, -1);
        Check.due(x, "undo()", x.undo(), 0, 0);
        seats(x, "the first", -1, -1);
    }

    /** What comes behind a MARK, or behind an undo(), does not reach the MARKS that are left. */
    private static void aMarkIsAsItWas() {
        StandTable x = Check.table(STAFF, "sit b 2;day 3;");
        x.mark();
        x.mark();
        x.live(0);
        x.undo();
        x.live(0);
        x.insist(0, 9);
        x.carve(0, true);
        x.value(0, -9);
        Check.due(x, "undo()", x.undo(), 0, 0);
        int[] told = {4, 2, 1, 3, 0, 2, 0, 2, 0, 1};
        for (int what = 0; what <= 9; what++) {
            Check.due(x, "told(" + what + ")", x.told(what), told[what], 0);
        }
        Check.due(x, "least(0)", x.least(0), 2, 0);
        Check.due(x, "wish(0,3)", x.wish(0, 3), 2, 0);
        Check.due(x, "article(0,3)", x.article(0, 3), 0, 0);
    }
}
