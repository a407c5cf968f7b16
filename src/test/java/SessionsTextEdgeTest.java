import java.util.function.Consumer;

/** Each sentence on SESSIONS as texts that names an edge, with a test of its own (promise 11 and part 4). */
public final class SessionsTextEdgeTest {
    private static final String STAFF = "places 4;corner 1;party a at 0;party b;party c;"
        + "article x takes 2;article y takes 1 x;";

    public static void main(String[] args) {
        sessionsOfNoSuchNumber();
        sessionsAbove300();
        sessionsOfAll300();
        sessionsOfTheFirstBytes();
        noneAtFirst();
        anEmptyTextIsOfNoSteps();
        theTapeIsEmptyThen();
        theOldOnesStay();
        newOnesTakeTheirPlace();
        howManySteps();
        tokensAsAbove();
        sits();
        rises();
        swaps();
        turns();
        days();
        agreesAndWithdraws();
        anyAndStop();
        whens();
        alls();
        loops();
        anEndWithoutABeginning();
        theTextsEndAheadOfAnEnd();
        a31stStep();
        endIsNoStep();
        withinThreeOthers();
        theFirstAlongTheText();
        theLeastKindOfOneToken();
        namesOfTheCommitteeThatIsThere();
        withoutPlaces();
        aRefusedTextChangesNothing();
        Check.close("SessionsTextEdgeTest");
    }

    private static String times(String s, int n) {
        return s.repeat(n);
    }

    private static StandTable can(String text, int steps) {
        StandTable x = Check.table(STAFF, null);
        Check.due(x, "sessions '" + text + "'", Check.sessions(x, text), steps, 0);
        Check.due("fault(0) of '" + text + "'", x.fault(0), 0);
        Check.due("fault(1) of '" + text + "'", x.fault(1), -1);
        return x;
    }

    /** A ^ stands ahead of the TOKEN that is at fault. */
    private static void fault(int kind, String marked) {
        String text = marked.replace("^", "");
        StandTable x = Check.table(STAFF, null);
        Check.refused(x, "sessions '" + marked + "'", Check.sessions(x, text), 9);
        Check.due("fault(0) of '" + marked + "'", x.fault(0), kind);
        Check.due("fault(1) of '" + marked + "'", x.fault(1), marked.indexOf('^'));
    }

    // ---- Promise 11: "likewise the SESSIONS: how many STEPS (1: above 300, too; 9)"

    private static void sessionsOfNoSuchNumber() {
        for (int n : new int[] {Integer.MIN_VALUE, -1, 21, 300, 301, Integer.MAX_VALUE}) {
            Twins.refused("sessions(" + n + ") of 20", Twins::rich, x -> x.sessions(n), 1);
        }
        Twins.refused("sessions(1) of none", Twins::none, x -> x.sessions(1), 1);
    }

    private static void sessionsAbove300() {
        Consumer<StandTable> past = x -> {
            Twins.richButTheTape(x);
            for (int i = 0; i < 16; i++) {
                Check.feed(x, "any;                ");
            }
        };
        Twins.refused("sessions(301)", past, x -> x.sessions(301), 1);
        Twins.refused("sessions(320)", past, x -> x.sessions(320), 1);
        StandTable x = new StandTable();
        past.accept(x);
        Check.due(x, "sessions(300)", x.sessions(300), 15, 0);
    }

    private static void sessionsOfAll300() {
        can(times(" ", 296) + "any;", 1);
        can("any" + times("\n", 296) + ";", 1);
        fault(2, "any" + times(" ", 297) + "^");
        fault(1, times(" ", 299) + "^!");
    }

    private static void sessionsOfTheFirstBytes() {
        StandTable x = Check.table(STAFF, null);
        Check.feed(x, "any;any;stop;");
        Check.due(x, "sessions(8)", x.sessions(8), 2, 0);
        Check.feed(x, "any;any;stop;");
        Check.refused(x, "sessions(7)", x.sessions(7), 9);
        Check.due("fault(1)", x.fault(1), 7);
    }

    /** "None at first; an empty TEXT is SESSIONS of no STEPS." */
    private static void noneAtFirst() {
        Consumer<StandTable> past = x -> Check.table(x, STAFF);
        Twins.refused("live without SESSIONS", past, x -> x.live(0), 6);
        Twins.denied("mean without SESSIONS", past, x -> x.mean(0, 1), 6);
    }

    private static void anEmptyTextIsOfNoSteps() {
        StandTable x = Check.table(STAFF, null);
        Check.due(x, "sessions(0)", x.sessions(0), 0, 0);
        Check.due(x, "live of no STEPS", x.live(0), 0, 0);
        Check.due(x, "mean of no STEPS", x.mean(0, 20), true, 0);
        for (int what = 0; what < 5; what++) {
            Check.due(x, "lived(" + what + ") of no STEPS", x.lived(what), 0, 0);
        }
        can(" ", 0);
        can("\n\n", 0);
    }

    private static void theTapeIsEmptyThen() {
        StandTable x = Check.table(STAFF, null);
        Check.feed(x, "any;any;any;any;any;any;");
        Check.due(x, "sessions(4)", x.sessions(4), 1, 0);
        Check.refused(x, "sessions(1) of none", x.sessions(1), 1);
        Check.feed(x, "any");
        Check.refused(x, "sessions(3)", x.sessions(3), 9);
        Check.refused(x, "sessions(1) of none", x.sessions(1), 1);
        Check.due("feed", x.feed(0, 0, 0, 0, 0), 20);
    }

    private static void theOldOnesStay() {
        for (String marked : new String[] {"^!", "any;any;stop;^end;", "loop 2;loop 3;sit a 0;^", "rise ^u;", "day ^21;"}) {
            String text = marked.replace("^", "");
            int kind = text.equals("!") ? 1 : text.startsWith("rise") ? 3 : text.startsWith("day") ? 4 : 2;
            Twins.faulty("sessions '" + marked + "'", Twins::richButTheTape, x -> Check.sessions(x, text), kind,
                marked.indexOf('^'));
        }
    }

    private static void newOnesTakeTheirPlace() {
        StandTable x = can("sit a 3;sit b 2;sit c 1;loop 2;turn 1;end;", 5);
        Check.due(x, "live", x.live(0), 6, 0);
        Check.due(x, "new ones", Check.sessions(x, "rise a;"), 1, 0);
        Check.due(x, "live of new ones", x.live(0), 1, 0);
        Check.due("told(6)", x.told(6), 6);
        Check.due(x, "none", x.sessions(0), 0, 0);
        Check.due(x, "live of none", x.live(0), 0, 0);
        Check.due("told(6)", x.told(6), 6);
    }

    /** "How many STEPS": when, loop are STEPS, end is none. */
    private static void howManySteps() {
        can("any;", 1);
        can("when signs a;end;", 1);
        can("loop 1;end;", 1);
        can("loop 1;when signs a;any;stop;end;end;", 4);
        for (int n = 0; n <= 30; n++) {
            can(times("any;", n), n);
        }
    }

    // ---- the STEPS

    private static void tokensAsAbove() {
        can("sit a 3 ; \n rise\na;", 2);
        can("turn3;when all<3;end;loop2;end;", 3);
        fault(1, "^Any;");
        fault(1, "any^,");
        fault(1, "turn ^00001;");
        fault(1, "loop ^12345;");
        fault(1, "turn^\t1;");
        fault(2, "^;");
        fault(2, "^7;");
        fault(2, "^<");
        fault(2, "^a;");
        fault(2, "^anyany;");
        fault(2, "^ends;");
        for (String s : "places corner party least at wants shuns beside facing worth article takes odds signs agreed all"
                .split(" ")) {
            fault(2, "^" + s + ";");
            fault(2, "any;^" + s + " 3;");
        }
    }

    private static void sits() {
        can("sit a 0;sit c 3;", 2);
        fault(3, "sit ^x 0;");
        fault(3, "sit ^d 0;");
        fault(2, "sit ^abcdefghi 0;");
        fault(2, "sit ^sit 0;");
        fault(2, "sit ^0 a;");
        fault(2, "sit a^;");
        fault(4, "sit a ^4;");
        fault(4, "sit a ^9999;");
        fault(2, "sit a 0 ^0;");
        fault(2, "sit^");
        for (int n = 3; n <= 6; n++) {
            StandTable x = Check.table("places " + n + ";party a;", null);
            Check.due(x, "sit at the last", Check.sessions(x, "sit a " + (n - 1) + ";"), 1, 0);
            Check.refused(x, "sit behind the last", Check.sessions(x, "sit a " + n + ";"), 9);
            Check.due("fault(0)", x.fault(0), 4);
        }
    }

    private static void rises() {
        can("rise a;rise c;", 2);
        fault(3, "rise ^x;");
        fault(3, "rise ^d;");
        fault(2, "rise ^3;");
        fault(2, "rise^;");
        fault(2, "rise a ^b;");
    }

    private static void swaps() {
        can("swap a c;swap c a;swap b b;", 3);
        fault(3, "swap ^x a;");
        fault(3, "swap a ^y;");
        fault(3, "swap a ^d;");
        fault(2, "swap a^;");
        fault(2, "swap a ^3;");
        fault(2, "swap a b ^c;");
    }

    private static void turns() {
        can("turn 0;turn 9;turn 0009;", 3);
        fault(4, "turn ^10;");
        fault(4, "turn ^99;");
        fault(2, "turn ^a;");
        fault(2, "turn^;");
        fault(2, "turn 1 ^1;");
    }

    private static void days() {
        can("day 1;day 20;", 2);
        fault(4, "day ^0;");
        fault(4, "day ^21;");
        fault(2, "day ^x;");
        fault(2, "day^;");
    }

    private static void agreesAndWithdraws() {
        can("agree x;agree y;withdraw x;withdraw y;", 4);
        for (String s : new String[] {"agree", "withdraw"}) {
            fault(3, s + " ^a;");
            fault(3, s + " ^z;");
            fault(2, s + " ^" + s + ";");
            fault(2, s + " ^1;");
            fault(2, s + "^;");
            fault(2, s + " x ^y;");
        }
    }

    private static void anyAndStop() {
        can("any;stop;", 2);
        for (String s : new String[] {"any", "stop"}) {
            fault(2, s + " ^a;");
            fault(2, s + " ^1;");
            fault(2, s + "^");
        }
    }

    private static void whens() {
        can("when signs a;end;when agreed x;any;end;", 3);
        fault(2, "when^;");
        fault(2, "when ^a;");
        fault(2, "when ^any;");
        fault(2, "when ^end;");
        fault(2, "when ^3;");
        fault(2, "when signs^;");
        fault(2, "when signs ^3;");
        fault(3, "when signs ^x;");
        fault(3, "when signs ^d;");
        fault(2, "when agreed^;");
        fault(3, "when agreed ^a;");
        fault(3, "when agreed ^z;");
        fault(2, "when signs a ^any;end;");
        fault(2, "when signs a^");
    }

    /** "All COMPARES NUMBER; COMPARES: < or > or =; 0 to 999 is told". */
    private static void alls() {
        can("when all < 0;end;when all > 999;end;when all = 0999;end;", 3);
        for (String s : new String[] {"<", ">", "="}) {
            fault(4, "when all " + s + " ^1000;end;");
            fault(4, "when all " + s + " ^9999;end;");
            fault(1, "when all " + s + " ^-1;end;");
            fault(2, "when all " + s + "^;");
            fault(2, "when all " + s + " ^a;");
            fault(2, "when all " + s + "^= 3;");
            fault(2, "when all " + s + " 3 ^" + s + ";");
        }
        fault(2, "when all^;");
        fault(2, "when all ^3;");
        fault(2, "when all ^a < 3;");
        fault(1, "when all ^! 3;");
    }

    private static void loops() {
        can("loop 1;end;loop 99;end;loop 0099;end;", 3);
        fault(4, "loop ^0;end;");
        fault(4, "loop ^100;end;");
        fault(2, "loop^;");
        fault(2, "loop ^any;");
        fault(2, "loop 3 ^any;end;");
        fault(2, "loop 3;any;end ^any;");
        fault(2, "loop 3;any;end^");
    }

    // ---- FAULTS

    private static void anEndWithoutABeginning() {
        fault(2, "^end;");
        fault(2, "any;^end");
        fault(2, "loop 1;end;^end;");
        fault(2, "when signs a;loop 1;end;end;^end;");
    }

    private static void theTextsEndAheadOfAnEnd() {
        fault(2, "loop 1;^");
        fault(2, "loop 1;any;  ^");
        fault(2, "when signs a;^");
        fault(2, "loop 1;loop 1;end;^");
        fault(2, "loop 1;loop 1;loop 1;end;end;\n^");
        String whole = "loop 2 ; when all < 3 ; sit a 1 ; end ; swap a b ; agree x ; end ; turn 3 ; ";
        int loop = whole.lastIndexOf("end ;") + 5;
        for (int n = 0; n <= whole.length(); n++) {
            String text = whole.substring(0, n);
            boolean closed = n == 0 || n >= loop && (text.trim().endsWith(";"));
            if (closed) {
                can(text, n == 0 ? 0 : n < whole.lastIndexOf(';') ? 5 : 6);
            } else if (text.endsWith(" ")) {
                fault(2, text + "^");
            }
        }
    }

    /** "6 a 31st STEP (at its WORD ..)". */
    private static void a31stStep() {
        for (String s : new String[] {"sit", "rise", "swap", "turn", "day", "agree", "withdraw", "any", "stop", "when", "loop"}) {
            fault(6, times("any;", 30) + "^" + s);
        }
        fault(6, "loop 1;" + times("any;", 29) + "^any;end;");
        fault(6, times("loop 1;end;", 20) + times("any;", 10) + "^stop;");
    }

    /** "End is none". */
    private static void endIsNoStep() {
        can(times("any;", 29) + "loop 1;end;", 30);
        can("loop 1;loop 1;loop 1;" + times("any;", 27) + "end;end;end;", 30);
        can(times("loop 1;end;", 20) + times("any;", 10), 30);
        StandTable x = can(times("loop2;end;", 30), 30);
        Check.due(x, "live of 30 loops in 300 bytes", x.live(0), 30, 0);
        Check.due(x, "lived(4) of 30 loops in 300 bytes", x.lived(4), 0, 0);
        StandTable y = can(times("loop2;loop2;end;end;", 15), 30);
        Check.due(y, "live of 15 loops within 15", y.live(0), 45, 0);
        Check.due(y, "lived(4) of 15 loops within 15", y.lived(4), 0, 0);
        fault(2, times("any;", 30) + "^end;");
        fault(2, times("any;", 30) + "^x;");
        fault(2, times("any;", 30) + "^;");
    }

    /** "7 a when, loop within three others (at its WORD)". */
    private static void withinThreeOthers() {
        for (String inner : new String[] {"loop", "when"}) {
            fault(7, "loop 1;loop 1;loop 1;^" + inner + " 1;");
            fault(7, "when signs a;when signs a;when signs a;^" + inner);
            fault(7, "loop 1;when signs a;loop 1;any;^" + inner);
            fault(7, "loop 1;loop 1;loop 1;end;loop 1;^" + inner);
        }
        can("loop 1;loop 1;loop 1;any;end;end;end;", 4);
        can("loop 1;loop 1;loop 1;end;loop 1;end;end;loop 1;loop 1;end;end;end;", 6);
        can("when signs a;when signs a;when agreed x;end;end;end;loop 1;loop 1;loop 1;end;end;end;", 6);
    }

    private static void theFirstAlongTheText() {
        fault(4, "turn ^10;end;!");
        fault(2, "^end;turn 10;");
        fault(3, "sit ^d 9;");
        fault(4, "loop ^0;");
    }

    /** "Of one TOKEN the least kind". */
    private static void theLeastKindOfOneToken() {
        fault(6, "loop 1;loop 1;loop 1;" + times("any;", 27) + "^loop 1;");
        fault(6, "loop 1;loop 1;loop 1;" + times("any;", 27) + "^when");
        fault(2, "loop 1;loop 1;loop 1;^places");
        fault(1, "loop 1;loop 1;loop 1;^Loop");
        fault(1, times("any;", 30) + "^!");
        fault(1, "turn ^99999;");
        fault(2, "rise ^abcdefghi;");
    }

    private static void namesOfTheCommitteeThatIsThere() {
        StandTable x = Check.table(STAFF, null);
        Check.committee(x, "places 3;party u;article v takes 1;");
        Check.due(x, "its NAMES", Check.sessions(x, "sit u 2;agree v;"), 2, 0);
        for (String s : new String[] {"rise a;", "agree x;", "rise v;", "agree u;"}) {
            Check.refused(x, "sessions '" + s + "'", Check.sessions(x, s), 9);
            Check.due("fault(0) of '" + s + "'", x.fault(0), 3);
        }
        Check.refused(x, "a PLACE of the old one", Check.sessions(x, "sit u 3;"), 9);
        Check.due("fault(0)", x.fault(0), 4);
        Check.refused(x, "a COMMITTEE with a FAULT", Check.committee(x, "places 6;party a;article x takes 1;!"), 9);
        Check.due(x, "its NAMES are left", Check.sessions(x, "rise u;agree v;"), 2, 0);
        Check.refused(x, "those of the FAULT", Check.sessions(x, "rise a;"), 9);
    }

    private static void withoutPlaces() {
        StandTable x = new StandTable();
        Check.due(x, "sessions of a new object", Check.sessions(x, "any;turn 9;day 20;loop 2;when all = 0;end;end;stop;"), 6, 0);
        Check.refused(x, "a sit of nobody", Check.sessions(x, "sit a 0;"), 9);
        Check.due("fault(0) of nobody", x.fault(0), 3);
        Check.due("fault(1) of nobody", x.fault(1), 4);
    }

    private static void aRefusedTextChangesNothing() {
        String text = times("sit a 1;agree x;withdraw y;", 5) + "loop 99;when all > 999;loop 1;turn 9;day 20;stop;end;end;";
        Twins.faulty("sessions with all but an end", Twins::richButTheTape, x -> Check.sessions(x, text), 2,
            text.length());
    }
}
