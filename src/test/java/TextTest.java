/** Promises 9 to 12: the tape, COMMITTEES and SESSIONS as texts, FAULTS. */
public final class TextTest {
    private static final String[] RESERVED = {"places", "corner", "party", "least", "at", "wants", "shuns",
        "beside", "facing", "worth", "article", "takes", "odds", "sit", "rise", "swap", "turn", "day",
        "agree", "withdraw", "any", "when", "signs", "agreed", "all", "loop", "end", "stop"};
    private static final String P = "places 3;";
    private static final String PQ = "places 3;party p;party q;";
    private static final String STAFF =
        "places 4;party a at 0;party b;article x takes 2;article y takes 1 x;";

    public static void main(String[] args) {
        tape();
        committees();
        aNewOneTakesThePlace();
        aNewOneHasNothingOfOldOnes();
        allThatThereCanBe();
        faultOfTheLatest();
        committeesThatCanBe();
        committeeFaults();
        committeeNames();
        tooMany();
        sessions();
        sessionsThatCanBe();
        sessionFaults();
        sessionDepths();
        Check.close("TextTest");
    }

    private static String times(String s, int n) {
        return s.repeat(n);
    }

    // ---- the tape

    private static void tape() {
        StandTable x = new StandTable();
        for (int n = 20; n <= 900; n += 20) {
            Check.due("feed", x.feed(0, 0, 0, 0, 0), n);
        }
        x.told(10);
        Check.due("feed of 920", x.feed(0, 0, 0, 0, 0), -1);
        Check.due("status() behind feed", x.status(), 1);
        Check.due("feed of 920 again", x.feed(0, 0, 0, 0, 0), -1);
        Check.refused(x, "committee(901)", x.committee(901), 1);
        Check.refused(x, "committee(900) of bytes 0", x.committee(900), 9);
        Check.due("feed behind it", x.feed(0, 0, 0, 0, 0), 20);
        // each byte of each int stands where it belongs, the highest first
        x = new StandTable();
        x.feed(0x20202070, 0x6c616365, 0x7320330a, 0x3b636f72, 0x6e657220);
        x.feed(0x323b2020, 0, 0, 0, 0);
        Check.due(x, "committee(24)", x.committee(24), 0, 0);
        Check.due("told(0)", x.told(0), 3);
        Check.due("told(5)", x.told(5), 4);
    }

    private static void committees() {
        StandTable x = new StandTable();
        Check.refused(x, "committee(-1)", x.committee(-1), 1);
        Check.refused(x, "committee(1) of an empty tape", x.committee(1), 1);
        Check.feed(x, "places 3;places");
        Check.refused(x, "committee(21)", x.committee(21), 1);
        Check.refused(x, "committee(-1)", x.committee(-1), 1);
        Check.due(x, "committee(9), the first bytes", x.committee(9), 0, 0);
        Check.due("told(0)", x.told(0), 3);
        Check.refused(x, "committee(1): the tape is empty", x.committee(1), 1);
        Check.due("feed", x.feed(0, 0, 0, 0, 0), 20);
        Check.refused(x, "committee(1) of a byte 0", x.committee(1), 9);
        Check.due("told(0) stays", x.told(0), 3);
        Check.due("feed behind a FAULT", x.feed(0, 0, 0, 0, 0), 20);
        Check.due(x, "committee(0)", x.committee(0), 0, 0);
        Check.due("told(0) of none", x.told(0), 0);
        // a TOKEN ends with the text, whatever stands behind it on the tape
        Check.feed(x, "places 35;");
        Check.refused(x, "a NUMBER cut off", x.committee(8), 9);
        Check.due("fault(0) of a NUMBER cut off", x.fault(0), 2);
        Check.due("fault(1) of a NUMBER cut off", x.fault(1), 8);
        Check.feed(x, "places 3;partyx p;");
        Check.refused(x, "a WORD cut off", x.committee(14), 9);
        Check.due("fault(0) of a WORD cut off", x.fault(0), 2);
        Check.due("fault(1) of a WORD cut off", x.fault(1), 14);
        Check.feed(x, "places 3;    xxx");
        Check.due(x, "blanks cut off", x.committee(11), 0, 0);
        Check.due(x, "committee with WISHES", Check.committee(x, PQ
            + "wants p corner worth 1;shuns q beside p worth 2;wants p facing q worth 3;"), 3, 0);
    }

    private static void aNewOneTakesThePlace() {
        StandTable x = Check.table(STAFF, "any;");
        x.day(2);
        x.mark();
        Check.due("told(8)", x.told(8), 1);
        Check.refused(x, "a FAULT", Check.committee(x, "places 2;"), 9);
        Check.due("told(8) stays", x.told(8), 1);
        Check.due("told(4) stays", x.told(4), 2);
        Check.due(x, "live stays", x.live(0), 1, 0);
        Check.due(x, "a new one", Check.committee(x, "places 5;article z takes 2;"), 0, 0);
        Check.due("told(0)", x.told(0), 5);
        Check.due("told(1)", x.told(1), 0);
        Check.due("told(3)", x.told(3), 1);
        Check.due("told(4)", x.told(4), 0);
        Check.due("told(8)", x.told(8), 0);
        Check.due("worked at", x.article(0, 3), 0);
        Check.refused(x, "live without SESSIONS", x.live(0), 6);
        Check.due(x, "MARKS stay", x.undo(), 0, 0);
        Check.due("told(8) of the MARK", x.told(8), 1);
    }

    private static String crowd() {
        StringBuilder s = new StringBuilder("places 6;corner 0;corner 5;");
        for (int i = 0; i < 5; i++) {
            s.append("party ").append((char) ('a' + i)).append(" least ").append(i + 1).append(" at ").append(i);
            s.append(';');
        }
        s.append(times("wants a beside b worth 1;", 9)).append("wants e corner worth 5;");
        s.append(times("wants b beside a worth 2;", 10));
        for (int i = 0; i < 8; i++) {
            s.append("article ").append((char) ('p' + i)).append(" takes 2 odds 3 ");
            s.append(i == 0 ? "" : (char) ('p' + i - 1)).append(';');
        }
        return s.toString();
    }

    private static void allThatThereCanBe() {
        StandTable x = Check.table(crowd(), null);
        int[] told = {6, 5, 20, 8, 0, 33, 31, 3, 0, 1};
        for (int what = 0; what <= 9; what++) {
            Check.due(x, "all: told(" + what + ")", x.told(what), told[what], 0);
        }
        Check.due("all: worth(0)", x.worth(0), 9);
        Check.due("all: worth(1)", x.worth(1), 20);
        Check.due("all: allWorth()", x.allWorth(), 29);
        Check.due("all: fish()", x.fish(), 12);
        Check.due("all: dearest(1)", x.dearest(1), 10);
        Check.due("all: dearest(0)", x.dearest(0), 0);
        Check.refused(x, "all: bestSwap()", x.bestSwap(), 6);
        x.sit(4, 5);
        Check.due("all: told(7)", x.told(7), 19);
        Check.due("all: day(99)", x.day(99), 8);
        Check.due("all: told(9)", x.told(9), 0);
        Check.due("all: withdraw(1)", x.withdraw(1), 7);
        Check.due("all: falls(0)", x.falls(0), 255);
        Check.due("all: leans(7)", x.leans(7), 127);
        Check.due("all: chain(7)", x.chain(7), 14);
    }

    /** Two objects hold the COMMITTEE in turn, so the third one comes where the first was. */
    private static void aNewOneHasNothingOfOldOnes() {
        StandTable x = Check.table(crowd(), "loop 3;any;end;");
        x.day(5);
        for (int i = 0; i < 3; i++) {
            Check.due(x, "none", Check.committee(x, ""), 0, 0);
            for (int what = 0; what <= 9; what++) {
                Check.due(x, "none: told(" + what + ")", x.told(what), 0, 0);
            }
        }
        Check.committee(x, crowd());
        for (int i = 0; i < 8; i++) {
            Check.due("crowd anew: article(" + i + ",3)", x.article(i, 3), 0);
        }
        Check.due("crowd anew: soonest(7)", x.soonest(7), 16);
        x.day(9);
        Check.refused(x, "a FAULT at the end", Check.committee(x, crowd() + "!"), 9);
        Check.due(x, "three", Check.committee(x, "places 6;party x;party y at 2;article p takes 3;"), 0, 0);
        Check.refused(x, "a FAULT at the end", Check.committee(x, crowd() + "!"), 9);
        int[] told = {6, 2, 0, 1, 0, 0, 2, 3, 0, 1};
        for (int what = 0; what <= 9; what++) {
            Check.due(x, "three: told(" + what + ")", x.told(what), told[what], 0);
        }
        Check.due("three: least(0)", x.least(0), 0);
        Check.due("three: article(0,1)", x.article(0, 1), 16);
        Check.due("three: article(0,2)", x.article(0, 2), 0);
        Check.due("three: article(0,3)", x.article(0, 3), 0);
        Check.refused(x, "three: who(1)", x.who(1), 6);
        Check.due("three: seatings()", x.seatings(), 30);
        Check.due("three: best()", x.best(), 0);
        Check.due("three: worth(0)", x.worth(0), 0);
        Check.due("three: allWorth()", x.allWorth(), 0);
        Check.refused(x, "three: dearest(0)", x.dearest(0), 6);
        // SESSIONS with a FAULT in the midst of a loop leave nothing open
        Check.refused(x, "sessions", Check.sessions(x, "loop 2;loop 2;any;"), 9);
        Check.due(x, "sessions", Check.sessions(x, "loop 2;loop 2;loop 2;end;end;end;"), 3, 0);
        Check.due(x, "sessions", Check.sessions(x, "any;"), 1, 0);
        Check.due(x, "live(0)", x.live(0), 1, 0);
    }

    private static void faultOfTheLatest() {
        StandTable x = new StandTable();
        Check.due("fault(0) ahead of any", x.fault(0), -1);
        Check.due("fault(1) ahead of any", x.fault(1), -1);
        Check.refused(x, "committee(5)", x.committee(5), 1);
        Check.due("fault(0) behind STATUS 1", x.fault(0), -1);
        Check.committee(x, P);
        Check.due("fault(0) without", x.fault(0), 0);
        Check.due("fault(1) without", x.fault(1), -1);
        Check.due("fault(2)", x.fault(2), -1);
        Check.due("fault(-1)", x.fault(-1), -1);
        Check.committee(x, "places 9;");
        Check.due("fault(0)", x.fault(0), 4);
        Check.due("fault(1)", x.fault(1), 7);
        Check.due("fault(2)", x.fault(2), -1);
        x.committee(5);
        x.sessions(301);
        x.told(0);
        Check.due("fault(0) stays", x.fault(0), 4);
        Check.due("fault(1) stays", x.fault(1), 7);
        Check.sessions(x, "any");
        Check.due("fault(0) of sessions", x.fault(0), 2);
        Check.due("fault(1) of sessions", x.fault(1), 3);
        Check.sessions(x, "any;");
        Check.due("fault(0) of good ones", x.fault(0), 0);
        Check.due("fault(1) of good ones", x.fault(1), -1);
    }

    // ---- COMMITTEES; a ^ stands ahead of the TOKEN that is at fault

    private static void can(String text, int wishes) {
        StandTable x = new StandTable();
        Check.due(x, "committee '" + text + "'", Check.committee(x, text), wishes, 0);
    }

    private static void fault(int kind, String marked) {
        StandTable x = new StandTable();
        String text = marked.replace("^", "");
        Check.refused(x, "committee '" + marked + "'", Check.committee(x, text), 9);
        Check.due("fault(0) of '" + marked + "'", x.fault(0), kind);
        Check.due("fault(1) of '" + marked + "'", x.fault(1), marked.indexOf('^'));
    }

    private static void committeesThatCanBe() {
        can("", 0);
        can(" \n \n", 0);
        can("places3;", 0);
        can("places 0006 ;corner\n5;corner 5;", 0);
        can("places 3;party abcdefgh least 50 at 2;party z at 0001;", 0);
        can("places 3;party p least 0;party q at 0;party r;", 0);
        can("article a takes 30 odds 16;article b takes 1 odds 0 a;article c takes 2 b a;", 0);
        can("article a takes 3odds 4;places 4;party b;article c takes 1 a;corner 3;", 0);
        can(PQ + "wants p beside q worth 9;wants p beside q worth 1;shuns q facing p worth 0009;", 3);
        can(P + "party places;".replace("places;", "place;") + "party partys;party en;", 0);
        can("places 6;party a;party b;party c;party d;party e;", 0);
        can(P + "party p;" + times("wants p corner worth 1;", 20), 20);
        StandTable x = Check.table("places 3;party p;" + times(" ", 883), null);
        Check.due("told(1) of 900 bytes", x.told(1), 1);
    }

    private static void committeeFaults() {
        for (char c : new char[] {0, 9, 13, 31, 33, 47, 58, 64, 'A', 'Z', '[', '`', '{', 127, 128, 255}) {
            fault(1, "^" + c);
            fault(1, P + "party p^" + c + ";");
            fault(1, "places ^" + c);
        }
        fault(1, "places ^00003;");
        fault(1, "^12345");
        fault(1, P + "^99999;");
        fault(1, P + "party ^123456 ;");
        for (String s : new String[] {";", "<", ">", "=", "7", "1234", "x", "abcdefghi"}) {
            fault(2, "^" + s);
            fault(2, P + "^" + s);
        }
        for (String s : RESERVED) {
            if (!"places corner party wants shuns article".contains(s) || s.equals("at")) {
                fault(2, P + "^" + s);
            }
        }
        fault(2, "places^");
        fault(2, "places 3^");
        fault(2, "places 3  ^");
        fault(2, "places ^;");
        fault(2, "places ^x;");
        fault(2, "places 3 ^3;");
        fault(2, "^corner 0;");
        fault(2, "^corner 12345");
        fault(2, "^party p;");
        fault(2, "article x takes 1;^party p;places 3;");
        fault(2, P + "corner^");
        fault(2, P + "corner ^;");
        fault(2, P + "corner 0 ^0;");
        fault(2, P + "party ^;");
        fault(2, P + "party ^5;");
        fault(2, P + "party p ^q;");
        fault(2, P + "party p at 0 ^least 3;");
        fault(2, P + "party p least 3 ^least 3;");
        fault(2, P + "party p least ^;");
        fault(2, P + "party p least ^p;");
        fault(2, P + "party p at ^at;");
        fault(2, P + "party p at 0 ^at 1;");
        fault(2, P + "party p^");
        fault(2, PQ + "wants ^;");
        fault(2, PQ + "wants ^3 corner worth 1;");
        fault(2, PQ + "wants ^abcdefghi corner worth 1;");
        fault(2, PQ + "wants ^corner worth 1;");
        fault(2, PQ + "wants p ^q worth 1;");
        fault(2, PQ + "wants p ^worth 1;");
        fault(2, PQ + "wants p beside ^worth 1;");
        fault(2, PQ + "wants p beside ^abcdefghi worth 1;");
        fault(2, PQ + "wants p corner ^q worth 1;");
        fault(2, PQ + "shuns p corner ^;");
        fault(2, PQ + "wants p corner worth ^;");
        fault(2, PQ + "wants p corner worth 3^");
        fault(2, PQ + "wants p corner worth 3 ^4;");
        fault(2, "article ^;");
        fault(2, "article a ^odds 3;");
        fault(2, "article a ^3;");
        fault(2, "article a takes ^odds 3;");
        fault(2, "article a takes 3 odds ^;");
        fault(2, "article a takes 3 odds 3 ^odds 3;");
        fault(2, "article a takes 3 ^3;");
        fault(2, "article a takes 3 ^all;");
        fault(2, "article a takes 3 ^abcdefghi;");
        fault(2, "article a takes 3^");
        fault(4, "places ^2;");
        fault(4, "places ^7;");
        fault(4, "places ^0;");
        fault(4, "places ^9999;");
        fault(4, P + "corner ^3;");
        fault(4, P + "corner ^9999;");
        fault(4, P + "party p least ^51;");
        fault(4, P + "party p at ^3;");
        fault(4, PQ + "wants p corner worth ^0;");
        fault(4, PQ + "wants p corner worth ^10;");
        fault(4, "article a takes ^0;");
        fault(4, "article a takes ^31;");
        fault(4, "article a takes 3 odds ^17;");
        fault(5, "places 3;^places 3;");
        fault(5, "places 3;^places");
        fault(5, P + "party p at 1;party q at ^1;");
        fault(5, PQ + "wants p beside ^p worth 1;");
        fault(5, PQ + "shuns q facing ^q worth 1;");
        fault(5, "article a takes 1;article b takes 1 a ^a;");
        // the first along the text, whatever its kind
        fault(4, P + "corner ^3 !");
        fault(2, P + "corner ^; 12345");
    }

    private static void committeeNames() {
        for (String s : RESERVED) {
            fault(2, P + "party ^" + s + ";");
            fault(2, "article ^" + s + " takes 1;");
            fault(2, PQ + "wants ^" + s + " corner worth 1;");
        }
        fault(2, P + "party ^abcdefghi;");
        fault(2, "article ^abcdefghi takes 1;");
        fault(3, PQ + "party ^p;");
        fault(3, "article a takes 1;article ^a takes 1;");
        fault(3, "article a takes 1;places 3;party ^a;");
        fault(3, PQ + "article ^q takes 1;");
        fault(3, PQ + "wants ^r corner worth 1;");
        fault(3, PQ + "wants p beside ^r worth 1;");
        fault(3, PQ + "wants ^pp corner worth 1;");
        fault(3, P + "wants ^p corner worth 1;party p;");
        fault(3, PQ + "article a takes 1;wants ^a corner worth 1;");
        fault(3, PQ + "article a takes 1;wants p facing ^a worth 1;");
        fault(3, "article a takes 1 ^a;");
        fault(3, "article a takes 1 ^b;article b takes 1;");
        fault(3, PQ + "article a takes 1 ^p;");
    }

    private static void tooMany() {
        fault(6, P + "party a;party b;party c;^party d;");
        fault(6, "places 4;party a;party b;party c;party d;^party");
        fault(6, "places 6;party a;party b;party c;party d;party e;^party f;");
        fault(6, "places 5;party a;party b;party c;party d;party e;^party a;");
        fault(6, P + "party p;" + times("wants p corner worth 1;", 20) + "^shuns p corner worth 1;");
        fault(6, P + "party p;" + times("shuns p corner worth 1;", 20) + "^wants");
        StringBuilder s = new StringBuilder();
        for (char c = 'a'; c <= 'h'; c++) {
            s.append("article ").append(c).append(" takes 1;");
        }
        can(s.toString(), 0);
        fault(6, s + "^article i takes 1;");
        fault(6, s + "^article a takes 1;");
    }

    // ---- SESSIONS

    private static void sessions() {
        StandTable x = Check.table(STAFF, null);
        Check.refused(x, "sessions(-1)", x.sessions(-1), 1);
        Check.refused(x, "sessions(1)", x.sessions(1), 1);
        Check.refused(x, "live(0) without", x.live(0), 6);
        for (int i = 0; i < 16; i++) {
            Check.feed(x, "any;any;any;any;any;");
        }
        Check.refused(x, "sessions(301)", x.sessions(301), 1);
        Check.refused(x, "sessions(321)", x.sessions(321), 1);
        Check.due("the tape stays", x.feed(0, 0, 0, 0, 0), 340);
        Check.refused(x, "sessions(300), 75 STEPS", x.sessions(300), 9);
        Check.due("fault(0)", x.fault(0), 6);
        Check.due("fault(1)", x.fault(1), 120);
        Check.due("the tape is empty", x.feed(0, 0, 0, 0, 0), 20);
        Check.refused(x, "live(0), still without", x.live(0), 6);
        Check.due(x, "sessions(0)", x.sessions(0), 0, 0);
        Check.due(x, "live(0) of no STEPS", x.live(0), 0, 0);
        Check.due("the tape is empty again", x.feed(0, 0, 0, 0, 0), 20);
        Check.due(x, "sessions", Check.table(STAFF, null).sessions(0), 0, 0);
        StandTable y = Check.table(STAFF, null);
        Check.due(y, "sessions of 300 bytes", Check.sessions(y, "any;any;" + times(" ", 292)), 2, 0);
        Check.refused(y, "a FAULT", Check.sessions(y, "stop;end;"), 9);
        Check.due(y, "the old ones stay", y.live(0), 2, 0);
    }

    private static void canDo(String text, int steps) {
        StandTable x = Check.table(STAFF, null);
        Check.due(x, "sessions '" + text + "'", Check.sessions(x, text), steps, 0);
    }

    private static void badDoing(int kind, String marked) {
        StandTable x = Check.table(STAFF, null);
        String text = marked.replace("^", "");
        Check.refused(x, "sessions '" + marked + "'", Check.sessions(x, text), 9);
        Check.due("fault(0) of '" + marked + "'", x.fault(0), kind);
        Check.due("fault(1) of '" + marked + "'", x.fault(1), marked.indexOf('^'));
    }

    private static void sessionsThatCanBe() {
        canDo("", 0);
        canDo("\n ", 0);
        canDo("sit a 0;sit b 3;rise b;swap a b;swap a a;turn 0;turn 9;", 7);
        canDo("day 1;day 20;agree x;withdraw y;any;stop;stop;", 7);
        canDo("when signs a;end;when agreed y;any;end;when all<0;end;when all>999;end;when all=5;end;", 6);
        canDo("loop 1;loop 99;loop 2;any;end;end;end;any ;", 5);
        canDo("loop\n1 ;end ; ", 1);
        canDo(times("any;", 30), 30);
        canDo(times("loop 1;end;", 15) + times("any;", 15), 30);
        StandTable x = new StandTable();
        Check.due(x, "sessions without PLACES", Check.sessions(x, "any;turn 3;when all<0;end;"), 3, 0);
    }

    private static void sessionFaults() {
        badDoing(1, "^Any;");
        badDoing(1, "any;^12345");
        badDoing(1, "any^,");
        badDoing(1, "turn ^00001;");
        badDoing(2, "^;");
        badDoing(2, "^7");
        badDoing(2, "^<");
        badDoing(2, "^a;");
        badDoing(2, "any;^end;");
        badDoing(2, "loop 2;end;^end;");
        badDoing(2, "any^");
        badDoing(2, "any ^any;");
        badDoing(2, "loop 3;any;^");
        badDoing(2, "loop 3; ^");
        badDoing(2, "loop 3;end^");
        badDoing(2, "loop 3;loop 3;end;^");
        badDoing(2, "loop 3;any;end ^any;");
        badDoing(2, "when signs a;any;^");
        badDoing(2, "stop ^3;");
        badDoing(2, "sit ^;");
        badDoing(2, "sit ^3 3;");
        badDoing(2, "sit a ^b;");
        badDoing(2, "sit a 0 ^0;");
        badDoing(2, "sit ^abcdefghi 0;");
        badDoing(2, "rise ^;");
        badDoing(2, "swap a ^;");
        badDoing(2, "swap ^any a;");
        badDoing(2, "turn ^a;");
        badDoing(2, "turn^");
        badDoing(2, "day ^;");
        badDoing(2, "agree ^3;");
        badDoing(2, "agree ^agree;");
        badDoing(2, "withdraw x ^y;");
        badDoing(2, "loop ^;");
        badDoing(2, "loop ^any;");
        badDoing(2, "when ^any;");
        badDoing(2, "when ^;");
        badDoing(2, "when ^a;");
        badDoing(2, "when all ^3;");
        badDoing(2, "when all ^;");
        badDoing(2, "when all < ^;");
        badDoing(2, "when all < ^a;");
        badDoing(2, "when all < ^< 3;");
        badDoing(2, "when all < 3 ^end;");
        badDoing(2, "when signs ^3;");
        badDoing(2, "when signs^");
        badDoing(2, "when agreed ^;");
        for (String s : RESERVED) {
            badDoing(2, "rise ^" + s + ";");
            badDoing(2, "agree ^" + s + ";");
        }
        for (String s : new String[] {"places", "corner", "party", "least", "at", "wants", "shuns", "beside",
            "facing", "worth", "article", "takes", "odds", "signs", "agreed", "all", "end"}) {
            badDoing(2, "^" + s + " 3;");
        }
        badDoing(3, "sit ^x 0;");
        badDoing(3, "sit ^c 0;");
        badDoing(3, "rise ^y;");
        badDoing(3, "swap ^x a;");
        badDoing(3, "swap a ^x;");
        badDoing(3, "agree ^a;");
        badDoing(3, "withdraw ^b;");
        badDoing(3, "when signs ^x;");
        badDoing(3, "when agreed ^a;");
        badDoing(4, "sit a ^4;");
        badDoing(4, "turn ^10;");
        badDoing(4, "day ^0;");
        badDoing(4, "day ^21;");
        badDoing(4, "loop ^0;");
        badDoing(4, "loop ^100;");
        badDoing(4, "when all < ^1000;");
        badDoing(4, "when all = ^9999;");
    }

    private static void sessionDepths() {
        badDoing(6, times("any;", 30) + "^any;");
        badDoing(6, times("any;", 30) + "^stop");
        badDoing(2, times("any;", 30) + "^end;");
        badDoing(2, times("any;", 30) + "^a;");
        badDoing(7, "loop 2;when signs a;loop 2;^loop 2;");
        badDoing(7, "when signs a;when signs a;when signs a;any;^when signs a;");
        badDoing(6, "loop 2;loop 2;loop 2;" + times("any;", 27) + "^loop");
        canDo("loop 2;loop 2;loop 2;any;end;loop 3;end;end;loop 2;end;end;", 6);
        canDo("loop 2;loop 2;loop 2;" + times("any;", 27) + "end;end;end;", 30);
        badDoing(7, "loop 2;loop 2;loop 2;end;loop 2;^loop 2;");
    }
}
