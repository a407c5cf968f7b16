import java.util.function.Consumer;

/** Each sentence on the tape, on COMMITTEES as texts and their FAULTS that names an edge, with a test of its own. */
public final class TextEdgeTest {
    private static final String P = "places 3;";
    private static final String PQ = "places 3;party p;party q;";
    private static final String[] NO_NAMES = ("places, corner, party, least, at, wants, shuns, beside, facing, worth, "
        + "article, takes, odds, sit, rise, swap, turn, day, agree, withdraw, any, when, signs, agreed, all, loop, "
        + "end, stop").split(", ");

    public static void main(String[] args) {
        theTapeHasAtMost900();
        theHighestOfEachIntIsFirst();
        bytesComeBehindThoseOnTheTape();
        committeeOfNoSuchNumber();
        committeeOfAll900();
        committeeOfTheFirstBytes();
        committeeOfNoBytes();
        theTapeIsEmptyThen();
        theOldCommitteeStays();
        aNewCommitteeTakesItsPlace();
        nothingIsLeftOfALargerOne();
        howManyWishes();
        faultAheadOfAny();
        faultOfOthers();
        faultOfStatus1Stays();
        faultOfTheLatest();
        tokensGoAsLongAsTheyGo();
        blanksAre10And32();
        wordsAreOfSmallLetters();
        numbersHaveUpToFourDigits();
        signsThatCanNotStand();
        noPartsAtAll();
        partsInAnyOrder();
        whatPerhapsStands();
        namesOf1To8Letters();
        wordsThatAreNoNames();
        aNameThatIsTaken();
        aNameThatIsNoSuchOne();
        places3To6();
        placesToldAgain();
        placesAheadOfCornersAndParties();
        cornersToldAgain();
        cornersThatAreNot();
        leasts();
        seatsThatAreNot();
        seatsThatAreTaken();
        atMostFiveParties();
        asManyPartiesAsPlaces();
        atMost20Wishes();
        worths();
        aPartyAndItself();
        atMost8Articles();
        takesAndOdds();
        leansOnEachOnce();
        theTextEnds();
        theFirstAlongTheText();
        theLeastKindOfOneToken();
        aRefusedTextChangesNothing();
        Check.close("TextEdgeTest");
    }

    private static String times(String s, int n) {
        return s.repeat(n);
    }

    private static StandTable can(String text, int wishes) {
        StandTable x = new StandTable();
        Check.due(x, "committee '" + text + "'", Check.committee(x, text), wishes, 0);
        Check.due("fault(0) of '" + text + "'", x.fault(0), 0);
        Check.due("fault(1) of '" + text + "'", x.fault(1), -1);
        return x;
    }

    /** A ^ stands ahead of the TOKEN that is at fault. */
    private static void fault(int kind, String marked) {
        String text = marked.replace("^", "");
        StandTable x = new StandTable();
        Check.refused(x, "committee '" + marked + "'", Check.committee(x, text), 9);
        Check.due("fault(0) of '" + marked + "'", x.fault(0), kind);
        Check.due("fault(1) of '" + marked + "'", x.fault(1), marked.indexOf('^'));
    }

    // ---- Promise 9: feed

    /** "NONE if there would be more than 900." */
    private static void theTapeHasAtMost900() {
        Consumer<StandTable> full = x -> {
            Twins.rich(x);
            for (int i = 0; i < 44; i++) {
                x.feed(0x3b3b3b3b, i, 0, 0, 0);
            }
        };
        Twins.leaves("feed of 920", full, x -> {
            x.told(0);
            return x.feed(1, 2, 3, 4, 5);
        }, -1, 0);
        StandTable x = new StandTable();
        full.accept(x);
        Check.refused(x, "committee(901)", x.committee(901), 1);
        Check.refused(x, "committee(900)", x.committee(900), 9);
        Check.due("feed behind it", x.feed(1, 2, 3, 4, 5), 20);
    }

    private static void theHighestOfEachIntIsFirst() {
        StandTable x = new StandTable();
        Check.due("feed", x.feed(0x706c6163, 0x65732035, 0x3b20200a, 0x20202020, 0x20202020), 20);
        Check.due(x, "committee(20)", x.committee(20), 0, 0);
        Check.due("told(0)", x.told(0), 5);
        // a byte of 128 and more in each of the four is no TOKEN's first, and spoils no other
        for (int k = 0; k < 4; k++) {
            x.feed(0x20202020, 0x20202020 | 0x80 << 8 * k, 0x20202020, 0x20202020, 0x20202020);
            Check.refused(x, "a byte of 160", x.committee(20), 9);
            Check.due("fault(0) of a byte of 160", x.fault(0), 1);
            Check.due("fault(1) of a byte of 160", x.fault(1), 7 - k);
        }
        x.feed(-1, -1, -1, -1, -1);
        Check.refused(x, "bytes of 255", x.committee(20), 9);
        Check.due("fault(1) of bytes of 255", x.fault(1), 0);
    }

    private static void bytesComeBehindThoseOnTheTape() {
        StandTable x = new StandTable();
        x.feed(0x20202020, 0x20202020, 0x20202020, 0x20202020, 0x20207061);
        Check.due("feed", x.feed(0x72747920, 0x20202020, 0x20202020, 0x20202020, 0x20202020), 40);
        Check.refused(x, "a WORD over two feeds", x.committee(40), 9);
        Check.due("fault(0) of a WORD over two feeds", x.fault(0), 2);
        Check.due("fault(1) of a WORD over two feeds", x.fault(1), 18);
    }

    // ---- Promise 10: committee

    /** "1: n below 0, or more than the tape has, too". */
    private static void committeeOfNoSuchNumber() {
        for (int n : new int[] {Integer.MIN_VALUE, -1, 21, 900, 901, Integer.MAX_VALUE}) {
            Twins.refused("committee(" + n + ") of 20", Twins::rich, x -> x.committee(n), 1);
        }
        Twins.refused("committee(1) of none", Twins::none, x -> x.committee(1), 1);
    }

    private static void committeeOfAll900() {
        can("places 3;party p" + times(" ", 883) + ";", 0);
        fault(2, "places 3;party p" + times("\n", 884) + "^");
        fault(1, times(" ", 899) + "^!");
    }

    private static void committeeOfTheFirstBytes() {
        StandTable x = new StandTable();
        Check.feed(x, "places 3;!");
        Check.due(x, "committee(9)", x.committee(9), 0, 0);
        Check.feed(x, "places 3;!");
        Check.refused(x, "committee(10)", x.committee(10), 9);
        Check.due("fault(1)", x.fault(1), 9);
        Check.feed(x, "places 3;!");
        Check.refused(x, "committee(8)", x.committee(8), 9);
        Check.due("fault(1)", x.fault(1), 8);
        // what stands behind the n-th byte lengthens no TOKEN
        Check.feed(x, "places 3;corner 12345");
        Check.refused(x, "committee(20) of 4 digits", x.committee(20), 9);
        Check.due("fault(0) of 4 digits", x.fault(0), 4);
        Check.feed(x, "places 3;party abcdefghi");
        Check.refused(x, "committee(23) of 8 letters", x.committee(23), 9);
        Check.due("fault(0) of 8 letters", x.fault(0), 2);
        Check.due("fault(1) of 8 letters", x.fault(1), 23);
    }

    private static void committeeOfNoBytes() {
        Twins.comesTo("committee(0)", x -> Check.table(x, Twins.COMMITTEE), x -> x.committee(0), 0,
            x -> Check.committee(x, " "));
    }

    /** "The first n bytes of the tape (which is empty then)". */
    private static void theTapeIsEmptyThen() {
        StandTable x = new StandTable();
        Check.feed(x, "places 3;party p;party q;party");
        Check.due(x, "committee(9)", x.committee(9), 0, 0);
        Check.refused(x, "committee(1) of none", x.committee(1), 1);
        Check.due("feed", x.feed(0, 0, 0, 0, 0), 20);
        Check.due(x, "committee(0)", x.committee(0), 0, 0);
        Check.due("feed", x.feed(0, 0, 0, 0, 0), 20);
        Check.refused(x, "committee(1)", x.committee(1), 9);
        Check.due("feed behind a FAULT", x.feed(0, 0, 0, 0, 0), 20);
        Check.refused(x, "committee(21)", x.committee(21), 1);
        Check.due("feed behind STATUS 1", x.feed(0, 0, 0, 0, 0), 40);
    }

    /** "9: the old one stays". */
    private static void theOldCommitteeStays() {
        for (String text : new String[] {"!", "places 2;", "places 6;party u;article v takes 1;corner 9;",
            Twins.COMMITTEE + "x", Twins.COMMITTEE + "party d;party e;"}) {
            int place = text.equals("places 2;") ? 7 : text.startsWith("places 6") ? 42
                : text.equals("!") ? 0 : text.endsWith("x") ? Twins.COMMITTEE.length() : Twins.COMMITTEE.length() + 8;
            int kind = place == 0 ? 1 : place == 7 || place == 42 ? 4 : text.endsWith("x") ? 2 : 6;
            Twins.faulty("committee '" + text + "'", Twins::richButTheTape, x -> Check.committee(x, text), kind, place);
        }
    }

    /** "A COMMITTEE that is taken is there in place of that ahead; nothing is agreed; it is DAY 0, no SESSIONS." */
    private static void aNewCommitteeTakesItsPlace() {
        StandTable x = new StandTable();
        Twins.rich(x);
        x.sessions(0);
        Check.due(x, "a new one", Check.committee(x, "places 3;party c;article z takes 2;article v takes 1;"), 0, 0);
        int[] told = {3, 1, 0, 2, 0, 0, 0, 1, 0, 3};
        for (int what = 0; what <= 9; what++) {
            Check.due(x, "a new one: told(" + what + ")", x.told(what), told[what], 0);
        }
        Check.due(x, "a new one: worked at z", x.article(0, 3), 0, 0);
        Check.refused(x, "a new one: live", x.live(0), 6);
        Check.refused(x, "a new one: mean", x.mean(0, 1), 6);
        Check.refused(x, "a new one: who(1)", x.who(1), 6);
        // "committee() leaves MARKS"; TRAYS, the FRACTION, lived() are left, too
        Check.due(x, "a new one: read", x.read(0, 0), 3, 0);
        Check.due("a new one: bottom()", x.bottom(), 2);
        Check.due(x, "a new one: lived(1)", x.lived(1), 1, 0);
        Check.due(x, "a new one: undo", x.undo(), 0, 0);
        Check.due("undone: told(0)", x.told(0), 4);
        Check.due("undone: told(6)", x.told(6), 3);
        // the same text once more begins anew
        Check.committee(x, Twins.COMMITTEE);
        x.agree(0);
        x.day(2);
        x.sit(2, 3);
        x.insist(0, 7);
        x.value(0, -1);
        x.carve(0, true);
        Check.due(x, "the same text", Check.committee(x, Twins.COMMITTEE), 3, 0);
        Check.due("the same text: told(4)", x.told(4), 0);
        Check.due("the same text: told(5)", x.told(5), 2);
        Check.due("the same text: told(6)", x.told(6), 3);
        Check.due("the same text: told(8)", x.told(8), 0);
        Check.due("the same text: worked at y", x.article(1, 3), 0);
        Check.due("the same text: least(0)", x.least(0), 2);
        Check.due("the same text: wish(0,3)", x.wish(0, 3), 3);
    }

    /** "In place of that ahead": of one with more of all nothing is told, however often it was read. */
    private static void nothingIsLeftOfALargerOne() {
        String large = "places 6;corner 0;corner 5;party a least 50 at 0;party b least 50 at 1;party c least 50 at 2;"
            + "party d least 50 at 3;party e least 50 at 4;" + times("wants a beside b worth 9;", 20)
            + "article q takes 1 odds 0;article r takes 1 odds 1 q;article s takes 9 odds 2 q r;article t takes 9 q r s;";
        StandTable x = new StandTable();
        for (int i = 0; i < 3; i++) {
            Check.due(x, "a larger one", Check.committee(x, large), 20, 0);
            x.agree(0);
            x.agree(1);
        }
        Check.due(x, "a lesser one", Check.committee(x, "places 3;party a;party b;article q takes 2;"), 0, 0);
        Check.due(x, "fish()", x.fish(), 0, 0);
        Check.due(x, "leastFish()", x.leastFish(), 0, 0);
        Check.due(x, "good()", x.good(), 6, 0);
        Check.due(x, "classes()", x.classes(), 1, 0);
        Check.due(x, "best()", x.best(), 0, 0);
        Check.due(x, "mostSign()", x.mostSign(), 2, 0);
        Check.refused(x, "quarrel()", x.quarrel(), 6);
        Check.due(x, "turn(1)", x.turn(1), 0, 0);
        Check.refused(x, "bestSwap()", x.bestSwap(), 6);
        Check.due(x, "leans(0)", x.leans(0), 0, 0);
        Check.due(x, "falls(0)", x.falls(0), 1, 0);
        Check.due(x, "orders()", x.orders(), 1, 0);
        Check.due(x, "agreedIn(1)", x.agreedIn(1), 0, 0);
        Check.due(x, "agreedIn(300)", x.agreedIn(300), 1, 0);
        Check.due(x, "soonest(0)", x.soonest(0), 2, 0);
        Check.due(x, "chain(0)", x.chain(0), 2, 0);
        Check.due(x, "luck(0)", x.luck(0), true, 0);
        Check.due("top()", x.top(), 1);
        Check.due(x, "seatBest()", x.seatBest(), 0, 0);
        Check.due(x, "told(6)", x.told(6), 3, 0);
        Check.due(x, "allWorth()", x.allWorth(), 0, 0);
    }

    private static void howManyWishes() {
        for (int n = 0; n <= 20; n++) {
            can(P + "party p;" + times("wants p corner worth 1;", n / 2) + times("shuns p corner worth 1;", n - n / 2), n);
        }
    }

    // ---- Promise 12: fault

    private static void faultAheadOfAny() {
        StandTable x = new StandTable();
        x.told(0);
        for (int what : new int[] {Integer.MIN_VALUE, -1, 0, 1, 2, Integer.MAX_VALUE}) {
            Check.due("fault(" + what + ") ahead of any", x.fault(what), -1);
        }
    }

    private static void faultOfOthers() {
        StandTable x = new StandTable();
        Check.committee(x, "places 9;");
        for (int what : new int[] {Integer.MIN_VALUE, -1, 2, 3, Integer.MAX_VALUE}) {
            Check.due("fault(" + what + ")", x.fault(what), -1);
        }
        Check.due("fault(0)", x.fault(0), 4);
        Check.due("fault(1)", x.fault(1), 7);
    }

    /** "Of the latest committee() or sessions() with STATUS 0 or 9". */
    private static void faultOfStatus1Stays() {
        StandTable x = new StandTable();
        Check.refused(x, "committee(1)", x.committee(1), 1);
        Check.refused(x, "sessions(1)", x.sessions(1), 1);
        Check.due("fault(0) ahead of any that was read", x.fault(0), -1);
        Check.committee(x, "places 9;");
        Check.refused(x, "committee(-1)", x.committee(-1), 1);
        Check.refused(x, "sessions(-1)", x.sessions(-1), 1);
        Check.due("fault(0) stays", x.fault(0), 4);
        Check.due("fault(1) stays", x.fault(1), 7);
        Check.committee(x, P);
        Check.refused(x, "committee(-1)", x.committee(-1), 1);
        Check.due("fault(0) stays 0", x.fault(0), 0);
        Check.due("fault(1) stays NONE", x.fault(1), -1);
    }

    private static void faultOfTheLatest() {
        StandTable x = new StandTable();
        Check.committee(x, "places 9;");
        Check.sessions(x, "any");
        Check.due("fault(0) of sessions", x.fault(0), 2);
        Check.due("fault(1) of sessions", x.fault(1), 3);
        Check.committee(x, "!");
        Check.due("fault(0) of committee", x.fault(0), 1);
        Check.due("fault(1) of committee", x.fault(1), 0);
        Check.sessions(x, "any;");
        Check.due("fault(0) of sessions without", x.fault(0), 0);
        Check.due("fault(1) of sessions without", x.fault(1), -1);
        Check.sessions(x, "end;");
        Check.committee(x, "");
        Check.due("fault(0) of a committee without", x.fault(0), 0);
        Check.due("fault(1) of a committee without", x.fault(1), -1);
    }

    // ---- TOKENS

    /** "TOKENS, as long as they go". */
    private static void tokensGoAsLongAsTheyGo() {
        can("places3;corner2;party p least7at1;", 0);
        can("article a takes3odds4;article b takes 1a;", 0);
        fault(2, "^placesparty 3;");
        fault(2, "places 3;^partyp;");
        fault(4, "places ^33;");
        fault(2, "places 3 ^3;");
        fault(2, P + "party p ^p;");
    }

    private static void blanksAre10And32() {
        can("\n places\n \n3\n;\n\n \n", 0);
        for (char c : new char[] {0, 1, 8, 9, 11, 12, 13, 31, 33, 127, 128, 138, 160, 255}) {
            fault(1, "^" + c + "places 3;");
            fault(1, "places^" + c + "3;");
            fault(1, "places 3;^" + c);
        }
    }

    private static void wordsAreOfSmallLetters() {
        for (char c = 'a'; c <= 'z'; c++) {
            can(P + "party " + c + ";", 0);
        }
        for (char c : new char[] {'A', 'Z', '`', '{', '@', '[', '_', '-'}) {
            fault(1, P + "party ^" + c + ";");
            fault(1, P + "party p^" + c + ";");
        }
    }

    /** "A NUMBER of 5 digits and more: at its first". */
    private static void numbersHaveUpToFourDigits() {
        can("places 3;", 0);
        can("places 03;", 0);
        can("places 003;", 0);
        can("places 0003;", 0);
        fault(1, "places ^00003;");
        fault(1, "places ^000000003;");
        fault(1, "places ^99999;");
        fault(1, "places ^4294967299;");
        fault(1, "places ^18446744073709551619;");
        fault(4, "places ^9999;");
        for (char c : new char[] {'/', ':', '.', ',', '+', '-'}) {
            fault(1, "places ^" + c + "3;");
            fault(1, "places 3^" + c + ";");
        }
    }

    private static void signsThatCanNotStand() {
        for (char c : new char[] {';', '<', '>', '='}) {
            fault(2, "^" + c);
            fault(2, P + "^" + c);
            fault(2, "places ^" + c);
        }
        for (char c : new char[] {'<', '>', '='}) {
            fault(2, "places 3^" + c);
        }
        for (char c : new char[] {'?', '&', '!', '(', ')'}) {
            fault(1, "places 3^" + c);
        }
    }

    // ---- the COMMITTEE

    /** "{ } any number of times": none, too. */
    private static void noPartsAtAll() {
        StandTable x = can("", 0);
        Check.due("told(0) of none", x.told(0), 0);
        can(" ", 0);
        can("\n", 0);
        can("article a takes 1;", 0);
    }

    private static void partsInAnyOrder() {
        StandTable x = can("article a takes 1;places 5;article b takes 2 a;party p;corner 4;wants p corner worth 1;"
            + "party q;shuns p beside q worth 2;corner 0;article c takes 3 b a;wants q facing p worth 3;", 3);
        int[] told = {5, 2, 3, 3, 0, 17, 0, 3, 0, 1};
        for (int what = 0; what <= 9; what++) {
            Check.due("any order: told(" + what + ")", x.told(what), told[what]);
        }
        Check.due("any order: article(2,2)", x.article(2, 2), 3);
        Check.due("any order: wish(1,2)", x.wish(1, 2), 1);
    }

    /** "[ ] perhaps": least, at, odds, in this order alone. */
    private static void whatPerhapsStands() {
        StandTable x = can("places 6;party a;party b least 7;party c at 4;party d least 8 at 5;"
            + "article u takes 1;article v takes 2 odds 3;article w takes 4 u;article z takes 5 odds 6 v u;", 0);
        int[] least = {0, 7, 0, 8};
        int[] place = {-1, -1, 4, 5};
        int[] odds = {16, 3, 16, 6};
        int[] leans = {0, 0, 1, 3};
        for (int i = 0; i < 4; i++) {
            Check.due(x, "least(" + i + ")", x.least(i), least[i], 0);
            Check.due(x, "placeOf(" + i + ")", x.placeOf(i), place[i], place[i] < 0 ? 6 : 0);
            Check.due(x, "article(" + i + ",1)", x.article(i, 1), odds[i], 0);
            Check.due(x, "article(" + i + ",2)", x.article(i, 2), leans[i], 0);
        }
        fault(2, P + "party p at 0 ^least 1;");
        fault(2, P + "party p least 1 ^least 1;");
        fault(2, P + "party p at 1 ^at 2;");
        fault(2, "article a takes 1 odds 2 ^odds 2;");
        fault(2, "article a ^odds 2 takes 1;");
        fault(2, "article a takes 1;article b takes 1 a ^odds 2;");
    }

    private static void namesOf1To8Letters() {
        for (int n = 1; n <= 8; n++) {
            can(P + "party " + times("z", n) + ";article " + times("y", n) + " takes 1;", 0);
        }
        for (int n = 9; n <= 14; n++) {
            fault(2, P + "party ^" + times("z", n) + ";");
            fault(2, "article ^" + times("z", n) + " takes 1;");
            fault(2, PQ + "wants ^" + times("p", n) + " corner worth 1;");
            fault(2, PQ + "wants p beside ^" + times("q", n) + " worth 1;");
            fault(2, "article a takes 1 ^" + times("a", n) + ";");
        }
        // NAMES that begin alike, and whose letters as digits come to the same
        can(P + "party a;party aa;party aaaaaaaa;article ab takes 1;article b takes 1 ab;", 0);
        fault(3, P + "party abcdefgh;party ^abcdefgh;");
        can(P + "party abcdefgh;party abcdefgi;", 0);
        can(P + "party abcdefgh;party bbcdefgh;", 0);
        can(P + "party ab;party r;party bb;article b takes 1;article aa takes 1;article bbbbbbbb takes 1;"
            + "article zz takes 1;article z takes 1;article zzzzzzzz takes 1;article az takes 1;article ba takes 1;", 0);
        fault(3, P + "party ab;wants ^a corner worth 1;");
        fault(3, P + "party ab;wants ^abc corner worth 1;");
        fault(3, P + "party ab;wants ^b corner worth 1;");
    }

    /** "NAME: a WORD of 1 to 8 letters that is none of places, ..". */
    private static void wordsThatAreNoNames() {
        for (String s : NO_NAMES) {
            fault(2, P + "party ^" + s + ";");
            fault(2, "article ^" + s + " takes 1;");
            fault(2, PQ + "shuns ^" + s + " corner worth 1;");
            fault(2, PQ + "shuns p facing ^" + s + " worth 1;");
            if (!s.equals("odds")) {
                fault(2, "article a takes 1 ^" + s + ";");
            }
            can(P + "party " + s.substring(1) + "q;", 0);
            if (s.length() < 8) {
                can(P + "party " + s + "q;article q" + s + " takes 1;", 0);
            }
        }
    }

    /** "One NAME is of one thing alone"; "3 a new NAME that is taken". */
    private static void aNameThatIsTaken() {
        fault(3, P + "party p;party ^p;");
        fault(3, P + "party p;article ^p takes 1;");
        fault(3, P + "article p takes 1;party ^p;");
        fault(3, P + "article p takes 1;article ^p takes 1;");
        fault(3, "places 6;party a;party b;party c;party d;party ^a;");
        fault(3, "places 6;party a;party b;party c;party d;party ^d;");
        fault(3, "article a takes 1;article b takes 1;article c takes 1;article ^c takes 1;");
    }

    /** "A NAME that is no such one told ahead (of an ARTICLE itself, too)". */
    private static void aNameThatIsNoSuchOne() {
        fault(3, P + "wants ^p corner worth 1;party p;");
        fault(3, P + "party p;wants p beside ^q worth 1;party q;");
        fault(3, P + "article a takes 1;wants ^a corner worth 1;");
        fault(3, P + "article a takes 1;party p;wants p facing ^a worth 1;");
        fault(3, "article a takes 1 ^a;");
        fault(3, "article a takes 1;article b takes 1 a ^b;");
        fault(3, "article a takes 1 ^b;article b takes 1;");
        fault(3, P + "party p;article a takes 1 ^p;");
    }

    private static void places3To6() {
        for (int n = 3; n <= 6; n++) {
            Check.due("told(0)", can("places " + n + ";", 0).told(0), n);
        }
        for (int n : new int[] {0, 1, 2, 7, 8, 10, 100, 9999}) {
            fault(4, "places ^" + n + ";");
        }
    }

    /** "5 places told already (at that WORD)". */
    private static void placesToldAgain() {
        fault(5, P + "^places 3;");
        fault(5, P + "^places 9;");
        fault(5, P + "^places");
        fault(5, P + "party p;^places ;");
    }

    /** "2: corner, party ahead of places: at that WORD". */
    private static void placesAheadOfCornersAndParties() {
        fault(2, "^corner 0;places 3;");
        fault(2, "^corner 0");
        fault(2, "^party p;places 3;");
        fault(2, "article a takes 1;^party a;");
        fault(3, "wants ^p corner worth 1;");
    }

    /** "CORNER: that PLACE is one (told again: nothing more)". */
    private static void cornersToldAgain() {
        StandTable x = can("places 4;corner 3;corner 0;corner 3;corner 3;corner 0;", 0);
        Check.due("told(5), told again", x.told(5), 9);
        Check.due("told(5) of all", can("places 3;corner 2;corner 1;corner 0;", 0).told(5), 7);
    }

    private static void cornersThatAreNot() {
        for (int n = 3; n <= 6; n++) {
            can("places " + n + ";corner " + (n - 1) + ";", 0);
            fault(4, "places " + n + ";corner ^" + n + ";");
        }
        fault(4, P + "corner ^9999;");
    }

    private static void leasts() {
        Check.due("least(0)", can(P + "party p least 0;", 0).least(0), 0);
        Check.due("least(0)", can(P + "party p least 50;", 0).least(0), 50);
        Check.due("least(0) without", can(P + "party p;", 0).least(0), 0);
        fault(4, P + "party p least ^51;");
        fault(4, P + "party p least ^9999;");
    }

    private static void seatsThatAreNot() {
        for (int n = 3; n <= 6; n++) {
            Check.due("placeOf(0)", can("places " + n + ";party p at " + (n - 1) + ";", 0).placeOf(0), n - 1);
            fault(4, "places " + n + ";party p at ^" + n + ";");
        }
        Check.due("placeOf(0)", can(P + "party p at 0;", 0).placeOf(0), 0);
    }

    /** "5 a PLACE where one sits already". */
    private static void seatsThatAreTaken() {
        fault(5, P + "party p at 0;party q at ^0;");
        fault(5, P + "party p at 2;party q;party r at ^2;");
        fault(5, P + "party p at 1;party q least 3 at ^1");
        can(P + "party p at 1;party q at 0;party r at 2;", 0);
    }

    private static void atMostFiveParties() {
        String five = "places 6;party a;party b;party c;party d;party e;";
        Check.due("told(1)", can(five, 0).told(1), 5);
        fault(6, five + "^party f;");
        fault(6, five + "^party");
        fault(6, five + "^party a;");
    }

    /** "6: as many parties as there are PLACES told already (at that WORD)". */
    private static void asManyPartiesAsPlaces() {
        Check.due("told(1)", can(P + "party a;party b;party c;", 0).told(1), 3);
        fault(6, P + "party a;party b;party c;^party d;");
        fault(6, "places 4;party a;party b;party c;party d;^party d;");
        fault(6, "places 5;party a;party b;party c;party d;party e;^party f;");
    }

    private static void atMost20Wishes() {
        String all = PQ + times("wants p corner worth 1;", 19) + "shuns q beside p worth 9;";
        Check.due("told(2)", can(all, 20).told(2), 20);
        fault(6, all + "^wants p corner worth 1;");
        fault(6, all + "^shuns p corner worth 1;");
        fault(6, all + "^wants");
        fault(6, all + "^shuns u;");
    }

    private static void worths() {
        StandTable x = can(PQ + "wants p corner worth 1;wants p corner worth 9;shuns p corner worth 1;"
            + "shuns p corner worth 9;", 4);
        int[] due = {1, 9, -1, -9};
        for (int k = 0; k < 4; k++) {
            Check.due(x, "wish(" + k + ",3)", x.wish(k, 3), due[k], 0);
        }
        for (int n : new int[] {0, 10, 9999}) {
            fault(4, PQ + "wants p corner worth ^" + n + ";");
            fault(4, PQ + "shuns p beside q worth ^" + n + ";");
        }
    }

    /** "5 a PARTY and itself (at the second NAME)". */
    private static void aPartyAndItself() {
        fault(5, PQ + "wants p beside ^p worth 1;");
        fault(5, PQ + "shuns q facing ^q worth 1;");
        fault(5, PQ + "shuns q beside ^q");
        can(PQ + "shuns q beside p worth 1;wants p beside q worth 1;", 2);
    }

    private static String articles(int n) {
        StringBuilder s = new StringBuilder();
        for (int i = 0; i < n; i++) {
            s.append("article ").append((char) ('a' + i)).append(" takes 1;");
        }
        return s.toString();
    }

    private static void atMost8Articles() {
        Check.due("told(3)", can(articles(8), 0).told(3), 8);
        fault(6, articles(8) + "^article i takes 1;");
        fault(6, articles(8) + "^article a takes 1;");
        fault(6, articles(8) + "^article");
    }

    private static void takesAndOdds() {
        StandTable x = can("article a takes 1 odds 0;article b takes 30 odds 16;", 0);
        Check.due("article(0,0)", x.article(0, 0), 1);
        Check.due("article(0,1)", x.article(0, 1), 0);
        Check.due("article(1,0)", x.article(1, 0), 30);
        Check.due("article(1,1)", x.article(1, 1), 16);
        fault(4, "article a takes ^0;");
        fault(4, "article a takes ^31;");
        fault(4, "article a takes 1 odds ^17;");
        fault(4, "article a takes 1 odds ^9999;");
    }

    /** "5 an ARTICLE twice (at that NAME)". */
    private static void leansOnEachOnce() {
        fault(5, "article a takes 1;article b takes 1 a ^a;");
        fault(5, articles(7) + "article h takes 1 g f e d c b a ^a;");
        fault(5, articles(7) + "article h takes 1 g f e d c b a ^g;");
        Check.due("leans on all", can(articles(7) + "article h takes 1 g f e d c b a;", 0).article(7, 2), 127);
    }

    /** "2 it can't stand there (the end: the text's length)". */
    private static void theTextEnds() {
        String whole = "places 4 ; corner 1 ; party p least 1 at 0 ; party q ; wants p beside q worth 1 ; "
            + "shuns q corner worth 2 ; article a takes 1 odds 2 ; article b takes 3 a ; ";
        boolean[] can = new boolean[whole.length() + 1];
        can[0] = true;
        for (int i = 0; i < whole.length(); i++) {
            char c = whole.charAt(i);
            can[i + 1] = c == ';' || c == ' ' && can[i];
        }
        for (int n = 0; n <= whole.length(); n++) {
            String text = whole.substring(0, n);
            if (can[n]) {
                can(text, n < 80 ? 0 : n < 105 ? 1 : 2);
            } else if (n == 0 || text.endsWith(" ")) {
                fault(2, text + "^");
            }
        }
    }

    private static void theFirstAlongTheText() {
        fault(4, P + "corner ^3; !");
        fault(2, P + "corner ^; 12345");
        fault(3, PQ + "wants ^r corner worth 0;!");
        fault(5, P + "party p at 0;party q at ^0;party p;");
        fault(1, P + "^! corner 9;");
        fault(4, P + "party p least ^51 at 9;");
        fault(2, "^party p;places 9;");
    }

    /** "Of one TOKEN the least kind". */
    private static void theLeastKindOfOneToken() {
        fault(1, P + "corner ^99999;");
        fault(1, P + "party ^Party;");
        fault(1, P + "party p;party ^12345;");
        fault(2, P + "party ^party;");
        fault(2, PQ + "wants ^abcdefghi corner worth 1;");
        fault(2, "article a takes 1;article b takes 1 a ^7;");
        fault(4, P + "party p at 0;party q at ^3;");
        // a PARTY with the greatest NAME, and itself
        fault(5, P + "party zzzzzzzz;wants zzzzzzzz beside ^zzzzzzzz worth 0;");
    }

    /** "Changes nothing else (but committee(), sessions() with 9 the tape, and what fault() tells)". */
    private static void aRefusedTextChangesNothing() {
        String text = "places 6;corner 0;corner 5;party z least 9 at 5;party y at 4;party x at 3;party w at 2;"
            + "wants z beside y worth 9;shuns y facing z worth 9;article c takes 30 odds 1;article b takes 29 c;"
            + "article a takes 28 b c";
        Twins.faulty("a text with all but its end", Twins::richButTheTape, x -> Check.committee(x, text), 2,
            text.length());
        StandTable x = new StandTable();
        Twins.rich(x);
        x.sessions(0);
        Check.committee(x, Twins.COMMITTEE + "!");
        Check.committee(x, "places 6;!");
        Check.due("behind two FAULTS: told(0)", x.told(0), 4);
        Check.due("behind two FAULTS: told(8)", x.told(8), 1);
        Check.due("behind two FAULTS: live", x.live(0), 0);
    }
}
