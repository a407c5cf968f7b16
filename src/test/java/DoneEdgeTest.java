import java.util.function.Consumer;

/** Each sentence on what is done that names an edge, with a test of its own (promises 25 to 34 and part 2). */
public final class DoneEdgeTest {
    private static final int MIN = Integer.MIN_VALUE;
    private static final int MAX = Integer.MAX_VALUE;
    private static final Consumer<StandTable> RICH = Twins::rich;

    public static void main(String[] args) {
        sitOfNoSuchNumber();
        sitWhereAnotherOneSits();
        sitWhereItselfSits();
        sitOfWhoStood();
        sitOfWhoSat();
        riseOfNoSuchParty();
        riseOfWhoStands();
        riseOfWhoSits();
        swapOfNoSuchParty();
        swapOfOneAndItself();
        swapOfTwoThatStand();
        swapOfOneThatStands();
        swapOfTwoThatSit();
        turnOfNoSuchNumber();
        turnBy0And99();
        turnRoundTheRing();
        turnOfNobody();
        dayOfNoSuchNumber();
        dayOf1And99();
        daysTo9999();
        dayAbove9999();
        dayBeyondAsAWhole();
        theFirstThatCanBeIsWorkedAt();
        theDayOnWhichItIsAgreed();
        oneIsWorkedAtADay();
        aDayWithNothingToDo();
        agreeOfNoSuchArticle();
        agreeOfOneThatIs();
        agreeOfOneThatLeans();
        agreeLeavesDays();
        withdrawOfNoSuchArticle();
        withdrawOfOneThatIsNot();
        withAllThatLeanOnOneThatFalls();
        whatFellIsWorkedAt0Days();
        whatDidNotFallStays();
        insistOfNoSuchNumber();
        insistOn0And50();
        valueOfNoSuchNumber();
        valueFromMinus9To9();
        valueLeavesWhoseAndWhom();
        carveOfNoSuchPlace();
        carveOfWhatIsSo();
        carveThereAndBack();
        Check.close("DoneEdgeTest");
    }

    private static Consumer<StandTable> past(String committee) {
        return x -> Check.table(x, committee);
    }

    private static void seats(StandTable x, String what, int... due) {
        for (int p = 0; p < due.length; p++) {
            Check.due(x, what + ": placeOf(" + p + ")", x.placeOf(p), due[p], due[p] < 0 ? 6 : 0);
        }
    }

    // ---- Promise 25: "SIT: the PLACE it had (NONE with STATUS 0: it stood) (1; 7: another one sits there)"

    private static void sitOfNoSuchNumber() {
        for (int v : new int[] {MIN, -1, 4, 6, MAX}) {
            Twins.refused("sit(0," + v + ") of four", RICH, x -> x.sit(0, v), 1);
            Twins.refused("sit(" + v + ",0) of three", RICH, x -> x.sit(v, 0), 1);
        }
        Twins.refused("sit(3,0) of three", RICH, x -> x.sit(3, 0), 1);
        Twins.refused("sit(3,1), 1 ahead of 7", RICH, x -> x.sit(3, 1), 1);
        Twins.refused("sit(0,0) of none", Twins::none, x -> x.sit(0, 0), 1);
        Twins.refused("sit(0,0) without PARTIES", past("places 3;"), x -> x.sit(0, 0), 1);
    }

    private static void sitWhereAnotherOneSits() {
        Twins.refused("sit(0,2), b sits there", RICH, x -> x.sit(0, 2), 7);
        Twins.refused("sit(1,1), a sits there", RICH, x -> x.sit(1, 1), 7);
        Twins.refused("sit(2,1), it stands", RICH, x -> x.sit(2, 1), 7);
    }

    /** "Where nobody sits, or itself". */
    private static void sitWhereItselfSits() {
        Twins.leaves("sit(0,1), where itself sits", RICH, x -> x.sit(0, 1), 1, 0);
        Twins.leaves("sit(0,0), where itself sits", past("places 3;party a at 0;"), x -> x.sit(0, 0), 0, 0);
    }

    private static void sitOfWhoStood() {
        Twins.comesTo("sit(2,0), it stood", RICH, x -> x.sit(2, 0), -1, x -> {
            x.swap(0, 2);
            x.turn(3);
            x.rise(1);
            x.sit(0, 1);
            x.sit(1, 2);
        });
        StandTable x = Check.table("places 3;party a;party b;", null);
        Check.due(x, "sit(1,2)", x.sit(1, 2), -1, 0);
        seats(x, "sit(1,2)", -1, 2);
    }

    private static void sitOfWhoSat() {
        StandTable x = Check.table("places 6;party a at 0;party b at 5;", null);
        Check.due(x, "sit(0,4)", x.sit(0, 4), 0, 0);
        Check.due(x, "sit(1,0), left by another one", x.sit(1, 0), 5, 0);
        Check.due(x, "sit(0,5), left by another one", x.sit(0, 5), 4, 0);
        seats(x, "sit", 5, 0);
    }

    // ---- Promise 26: "RISE: the PLACE it had (1; 7: it stands)"

    private static void riseOfNoSuchParty() {
        for (int p : new int[] {MIN, -1, 3, 4, 5, MAX}) {
            Twins.refused("rise(" + p + ") of three", RICH, x -> x.rise(p), 1);
        }
        Twins.refused("rise(0) of none", Twins::none, x -> x.rise(0), 1);
    }

    private static void riseOfWhoStands() {
        Twins.refused("rise(2), stands", RICH, x -> x.rise(2), 7);
    }

    private static void riseOfWhoSits() {
        StandTable x = Check.table("places 3;party a at 0;party b at 2;", null);
        Check.due(x, "rise(0), the PLACE 0", x.rise(0), 0, 0);
        seats(x, "rise(0)", -1, 2);
        Check.refused(x, "rise(0) again", x.rise(0), 7);
        Check.due(x, "rise(1)", x.rise(1), 2, 0);
        seats(x, "rise(1)", -1, -1);
    }

    // ---- Promise 27: "SWAP (1: one and itself, too; 7: both stand)"

    private static void swapOfNoSuchParty() {
        for (int p : new int[] {MIN, -1, 3, 4, 5, MAX}) {
            Twins.denied("swap(" + p + ",0) of three", RICH, x -> x.swap(p, 0), 1);
            Twins.denied("swap(0," + p + ") of three", RICH, x -> x.swap(0, p), 1);
            Twins.denied("swap(" + p + "," + p + ") of three", RICH, x -> x.swap(p, p), 1);
        }
        Twins.denied("swap(0,1) of none", Twins::none, x -> x.swap(0, 1), 1);
    }

    private static void swapOfOneAndItself() {
        Twins.denied("swap(0,0), sits", RICH, x -> x.swap(0, 0), 1);
        Twins.denied("swap(2,2), stands: 1 ahead of 7", RICH, x -> x.swap(2, 2), 1);
    }

    private static void swapOfTwoThatStand() {
        Consumer<StandTable> past = past("places 4;party a;party b at 0;party c;");
        Twins.denied("swap(0,2), both stand", past, x -> x.swap(0, 2), 7);
        Twins.denied("swap(2,0), both stand", past, x -> x.swap(2, 0), 7);
    }

    /** "SWAP: two PARTIES change places (one that stands sits then, and so on)." */
    private static void swapOfOneThatStands() {
        StandTable x = Check.table("places 4;party a at 0;party b;", null);
        Check.due(x, "swap(0,1)", x.swap(0, 1), true, 0);
        seats(x, "swap(0,1)", -1, 0);
        Check.due(x, "swap(0,1) back", x.swap(0, 1), true, 0);
        seats(x, "swap(0,1) back", 0, -1);
        Check.due(x, "swap(1,0)", x.swap(1, 0), true, 0);
        seats(x, "swap(1,0)", -1, 0);
    }

    private static void swapOfTwoThatSit() {
        StandTable x = Check.table("places 4;party a at 3;party b at 0;party c at 1;", null);
        Check.due(x, "swap(0,1)", x.swap(0, 1), true, 0);
        seats(x, "swap(0,1)", 0, 3, 1);
        Check.due(x, "swap(2,0)", x.swap(2, 0), true, 0);
        seats(x, "swap(2,0)", 1, 3, 0);
    }

    // ---- Promise 28: "TURN by n (0 to 99): how many sit (1)"

    private static void turnOfNoSuchNumber() {
        for (int n : new int[] {MIN, -1, 100, 101, MAX}) {
            Twins.refused("turn(" + n + ")", RICH, x -> x.turn(n), 1);
            Twins.refused("turn(" + n + ") of none", Twins::none, x -> x.turn(n), 1);
        }
    }

    private static void turnBy0And99() {
        Twins.leaves("turn(0)", RICH, x -> x.turn(0), 2, 0);
        StandTable x = Check.table("places 5;party a at 0;party b at 4;party c;", null);
        Check.due(x, "turn(99)", x.turn(99), 2, 0);
        seats(x, "turn(99)", 4, 3, -1);
    }

    /** "All that sit move n PLACES on (round the ring)." */
    private static void turnRoundTheRing() {
        for (int places = 3; places <= 6; places++) {
            for (int n = 0; n <= 99; n++) {
                StandTable x = Check.table("places " + places + ";party a at " + (places - 1) + ";party b;party c at 0;",
                    null);
                Check.due(x, "turn(" + n + ") of " + places, x.turn(n), 2, 0);
                seats(x, "turn(" + n + ") of " + places, (places - 1 + n) % places, -1, n % places);
            }
        }
    }

    private static void turnOfNobody() {
        Twins.leaves("turn(3) of none", Twins::none, x -> x.turn(3), 0, 0);
        Twins.leaves("turn(99) of none", Twins::none, x -> x.turn(99), 0, 0);
        Twins.leaves("turn(1), all stand", past("places 4;party a;"), x -> x.turn(1), 0, 0);
    }

    // ---- Promise 29: "So many DAYS (1 to 99): how many ARTICLES were AGREED in them (1; 4: above 9,999)"

    private static void dayOfNoSuchNumber() {
        for (int n : new int[] {MIN, -1, 0, 100, 101, MAX}) {
            Twins.refused("day(" + n + ")", RICH, x -> x.day(n), 1);
        }
    }

    private static void dayOf1And99() {
        StandTable x = Check.table("article a takes 1;article b takes 30;article c takes 30;article d takes 30;"
            + "article e takes 9;", null);
        Check.due(x, "day(1)", x.day(1), 1, 0);
        Check.due(x, "told(4)", x.told(4), 1, 0);
        Check.due(x, "day(99)", x.day(99), 4, 0);
        Check.due(x, "told(4)", x.told(4), 100, 0);
        Check.due(x, "told(8)", x.told(8), 31, 0);
        Check.due(x, "day(99), nothing left", x.day(99), 0, 0);
    }

    /** DAY 9,900, with an ARTICLE that is not AGREED. */
    private static void late(StandTable x) {
        Check.table(x, "article a takes 30;article b takes 30 a;");
        for (int i = 0; i < 100; i++) {
            x.day(99);
        }
        x.withdraw(0);
    }

    private static void daysTo9999() {
        StandTable x = new StandTable();
        late(x);
        Check.due(x, "day(99), to 9,999", x.day(99), 2, 0);
        Check.due(x, "told(4)", x.told(4), 9999, 0);
    }

    private static void dayAbove9999() {
        Consumer<StandTable> last = x -> {
            late(x);
            x.day(99);
            x.withdraw(0);
        };
        for (int n : new int[] {1, 2, 99}) {
            Twins.refused("day(" + n + ") on DAY 9,999", last, x -> x.day(n), 4);
        }
        Twins.refused("day(0) on DAY 9,999: 1 ahead of 4", last, x -> x.day(0), 1);
        Twins.refused("day(100) on DAY 9,999: 1 ahead of 4", last, x -> x.day(100), 1);
    }

    private static void dayBeyondAsAWhole() {
        Consumer<StandTable> near = x -> {
            late(x);
            x.day(97);
            x.withdraw(0);
        };
        Twins.refused("day(3) on DAY 9,997", near, x -> x.day(3), 4);
        Twins.refused("day(99) on DAY 9,997", near, x -> x.day(99), 4);
        StandTable x = new StandTable();
        near.accept(x);
        Check.due(x, "day(2) on DAY 9,997", x.day(2), 0, 0);
        Check.due(x, "told(4)", x.told(4), 9999, 0);
        Check.due(x, "article(0,3)", x.article(0, 3), 2, 0);
    }

    /** "The first ARTICLE that is not AGREED, all on which it leans are". */
    private static void theFirstThatCanBeIsWorkedAt() {
        StandTable x = Check.table("article a takes 3;article b takes 2 a;article c takes 2;article d takes 1 b c;", null);
        x.agree(0);
        x.withdraw(0);
        int[][] due = {{1, 0, 0, 0}, {2, 0, 0, 0}, {3, 0, 0, 0}, {3, 1, 0, 0}, {3, 2, 0, 0}, {3, 2, 1, 0}, {3, 2, 2, 0},
            {3, 2, 2, 1}};
        int[] agreed = {0, 0, 1, 0, 1, 0, 1, 1};
        for (int n = 0; n < due.length; n++) {
            Check.due(x, "day " + n, x.day(1), agreed[n], 0);
            for (int i = 0; i < 4; i++) {
                Check.due(x, "day " + n + ": article(" + i + ",3)", x.article(i, 3), due[n][i], 0);
            }
        }
        // one that is AGREED out of turn is passed over; so is one that can't be
        StandTable y = Check.table("article a takes 1;article b takes 1 a;article c takes 5;", null);
        y.day(1);
        y.agree(1);
        y.withdraw(0);
        y.agree(0);
        y.agree(1);
        Check.due(y, "day(4)", y.day(4), 0, 0);
        Check.due(y, "article(2,3)", y.article(2, 3), 4, 0);
    }

    /** "If that is as many as it TAKES, it is AGREED." */
    private static void theDayOnWhichItIsAgreed() {
        for (int takes = 1; takes <= 30; takes++) {
            StandTable x = Check.table("article a takes " + takes + ";", null);
            if (takes > 1) {
                Check.due(x, "days short by one", x.day(takes - 1), 0, 0);
                Check.due(x, "days short by one: article(0,4)", x.article(0, 4), 0, 0);
            }
            Check.due(x, "the last of " + takes, x.day(1), 1, 0);
            Check.due(x, "article(0,4)", x.article(0, 4), 1, 0);
            Check.due(x, "article(0,3)", x.article(0, 3), takes, 0);
        }
    }

    private static void oneIsWorkedAtADay() {
        StandTable x = Check.table("article a takes 1;article b takes 1;", null);
        Check.due(x, "day(1)", x.day(1), 1, 0);
        Check.due(x, "article(1,3), another was AGREED", x.article(1, 3), 0, 0);
    }

    private static void aDayWithNothingToDo() {
        StandTable x = new StandTable();
        Check.due(x, "day(99) of none", x.day(99), 0, 0);
        Check.due(x, "told(4)", x.told(4), 99, 0);
        StandTable y = Check.table("article a takes 1;", null);
        y.day(1);
        Check.due(y, "day(1), all AGREED", y.day(1), 0, 0);
        Check.due(y, "article(0,3)", y.article(0, 3), 1, 0);
        Check.due(y, "told(4)", y.told(4), 2, 0);
    }

    // ---- Promise 30: "AGREE: how many are AGREED then (1; 7)"

    private static void agreeOfNoSuchArticle() {
        for (int i : new int[] {MIN, -1, 3, 4, 8, 32, MAX}) {
            Twins.refused("agree(" + i + ") of three", RICH, x -> x.agree(i), 1);
            Twins.refused("withdraw(" + i + ") of three", RICH, x -> x.withdraw(i), 1);
        }
        Twins.refused("agree(0) of none", Twins::none, x -> x.agree(0), 1);
    }

    private static void agreeOfOneThatIs() {
        Twins.refused("agree(0), AGREED", RICH, x -> x.agree(0), 7);
    }

    private static void agreeOfOneThatLeans() {
        Twins.refused("agree(2), y is not AGREED", RICH, x -> x.agree(2), 7);
        Consumer<StandTable> half = x -> {
            Check.table(x, "article a takes 1;article b takes 1;article c takes 1 a b;");
            x.agree(0);
        };
        Twins.refused("agree(2), one of two is AGREED", half, x -> x.agree(2), 7);
        StandTable x = new StandTable();
        half.accept(x);
        Check.due(x, "agree(1)", x.agree(1), 2, 0);
        Check.due(x, "agree(2), both are AGREED", x.agree(2), 3, 0);
    }

    private static void agreeLeavesDays() {
        StandTable x = Check.table("article a takes 9;", null);
        x.day(4);
        Check.due(x, "agree(0)", x.agree(0), 1, 0);
        Check.due(x, "article(0,3) stays", x.article(0, 3), 4, 0);
        Check.due(x, "told(4) stays", x.told(4), 4, 0);
    }

    // ---- Promise 31: "WITHDRAW: how many fell (1; 7: it is not AGREED)"

    private static void withdrawOfNoSuchArticle() {
        Twins.refused("withdraw(0) of none", Twins::none, x -> x.withdraw(0), 1);
        Twins.refused("withdraw(0) without ARTICLES", past("places 3;"), x -> x.withdraw(0), 1);
    }

    private static void withdrawOfOneThatIsNot() {
        Twins.refused("withdraw(1), WORKED at", RICH, x -> x.withdraw(1), 7);
        Twins.refused("withdraw(2)", RICH, x -> x.withdraw(2), 7);
    }

    /** "It falls, and with it all AGREED ones that lean on one that falls". */
    private static void withAllThatLeanOnOneThatFalls() {
        String text = "article a takes 1;article b takes 1 a;article c takes 1;article d takes 1 b c;"
            + "article e takes 1 c;article f takes 1 d;article g takes 1;article h takes 1 f g;";
        int[] fell = {5, 4, 5, 3, 1, 2, 2, 1};
        int[] left = {84, 85, 67, 87, 239, 95, 63, 127};
        for (int i = 0; i < 8; i++) {
            StandTable x = Check.table(text, null);
            Check.due(x, "day(8)", x.day(8), 8, 0);
            Check.due(x, "withdraw(" + i + ")", x.withdraw(i), fell[i], 0);
            Check.due(x, "told(8) behind withdraw(" + i + ")", x.told(8), left[i], 0);
        }
    }

    /** "All of them are AGREED no more, WORKED at 0 days". */
    private static void whatFellIsWorkedAt0Days() {
        StandTable x = Check.table("article a takes 2;article b takes 3 a;article c takes 4;", null);
        x.day(9);
        Check.due(x, "withdraw(0)", x.withdraw(0), 2, 0);
        Check.due(x, "article(0,3), fell", x.article(0, 3), 0, 0);
        Check.due(x, "article(1,3), fell", x.article(1, 3), 0, 0);
        Check.due(x, "article(2,3), did not fall", x.article(2, 3), 4, 0);
        Check.due(x, "article(2,4), did not fall", x.article(2, 4), 1, 0);
        Check.refused(x, "withdraw(0) again", x.withdraw(0), 7);
    }

    /** One that leans on what falls and is not AGREED does not fall: its days stay, and it is not counted. */
    private static void whatDidNotFallStays() {
        StandTable x = new StandTable();
        Twins.rich(x);
        Check.due(x, "withdraw(0)", x.withdraw(0), 1, 0);
        Check.due(x, "article(1,3), WORKED at", x.article(1, 3), 1, 0);
        Check.due(x, "told(8)", x.told(8), 0, 0);
        Check.due(x, "day(2)", x.day(2), 1, 0);
        Check.due(x, "day(2), one was done", x.day(2), 1, 0);
        Check.due(x, "told(8)", x.told(8), 3, 0);
    }

    // ---- Promise 32: "LEAST of a PARTY from now on (0 to 50) (1)"

    private static void insistOfNoSuchNumber() {
        for (int n : new int[] {MIN, -1, 51, 52, MAX}) {
            Twins.denied("insist(0," + n + ")", RICH, x -> x.insist(0, n), 1);
        }
        for (int p : new int[] {MIN, -1, 3, 4, 5, MAX}) {
            Twins.denied("insist(" + p + ",0)", RICH, x -> x.insist(p, 0), 1);
        }
        Twins.denied("insist(0,0) of none", Twins::none, x -> x.insist(0, 0), 1);
    }

    private static void insistOn0And50() {
        StandTable x = new StandTable();
        Twins.rich(x);
        for (int n = 50; n >= 0; n--) {
            Check.due(x, "insist(0," + n + ")", x.insist(0, n), true, 0);
            Check.due(x, "least(0)", x.least(0), n, 0);
            Check.due(x, "signs(0), worth 3", x.signs(0), n <= 3 ? 1 : 0, 0);
        }
        Check.due(x, "least(1) stays", x.least(1), 0, 0);
    }

    // ---- Promise 33: "(1 to 9: it is wanted; -9 to -1: it is shunned) (1)"

    private static void valueOfNoSuchNumber() {
        for (int n : new int[] {MIN, -10, 0, 10, MAX}) {
            Twins.denied("value(0," + n + ")", RICH, x -> x.value(0, n), 1);
        }
        for (int k : new int[] {MIN, -1, 3, 4, 20, MAX}) {
            Twins.denied("value(" + k + ",1)", RICH, x -> x.value(k, 1), 1);
        }
        Twins.denied("value(0,1) of none", Twins::none, x -> x.value(0, 1), 1);
    }

    private static void valueFromMinus9To9() {
        StandTable x = new StandTable();
        Twins.rich(x);
        for (int n = -9; n <= 9; n++) {
            if (n != 0) {
                Check.due(x, "value(0," + n + ")", x.value(0, n), true, 0);
                Check.due(x, "wish(0,3)", x.wish(0, 3), n, 0);
                Check.due(x, "worth(0)", x.worth(0), n, 0);
                Check.due(x, "dearest(0) of " + n, x.dearest(0), n > 0 ? 0 : -1, n > 0 ? 0 : 6);
            }
        }
    }

    /** "The k-th WISH, whatever it was": a shunned one is wanted then, and the rest of it stays. */
    private static void valueLeavesWhoseAndWhom() {
        StandTable x = new StandTable();
        Twins.rich(x);
        Check.due(x, "value(1,5)", x.value(1, 5), true, 0);
        Check.due(x, "wish(1,0)", x.wish(1, 0), 1, 0);
        Check.due(x, "wish(1,1)", x.wish(1, 1), 0, 0);
        Check.due(x, "wish(1,2)", x.wish(1, 2), 0, 0);
        Check.due(x, "worth(1)", x.worth(1), 5, 0);
        Check.due(x, "wish(0,3) stays", x.wish(0, 3), 3, 0);
        Check.due(x, "wish(2,3) stays", x.wish(2, 3), 4, 0);
    }

    // ---- Promise 34: "A PLACE is a CORNER from now on, or not (1; 7: it is so)"

    private static void carveOfNoSuchPlace() {
        for (int p : new int[] {MIN, -1, 4, 5, 6, 32, 33, MAX}) {
            Twins.denied("carve(" + p + ",true)", RICH, x -> x.carve(p, true), 1);
            Twins.denied("carve(" + p + ",false)", RICH, x -> x.carve(p, false), 1);
        }
        Twins.denied("carve(0,true) of none", Twins::none, x -> x.carve(0, true), 1);
    }

    private static void carveOfWhatIsSo() {
        Twins.denied("carve(1,true), a CORNER", RICH, x -> x.carve(1, true), 7);
        for (int p : new int[] {0, 2, 3}) {
            Twins.denied("carve(" + p + ",false), no CORNER", RICH, x -> x.carve(p, false), 7);
        }
    }

    private static void carveThereAndBack() {
        StandTable x = Check.table("places 6;", null);
        int set = 0;
        for (int p = 0; p < 6; p++) {
            set |= 1 << p;
            Check.due(x, "carve(" + p + ",true)", x.carve(p, true), true, 0);
            Check.due(x, "told(5)", x.told(5), set, 0);
        }
        for (int p = 0; p < 6; p++) {
            set &= ~(1 << p);
            Check.due(x, "carve(" + p + ",false)", x.carve(p, false), true, 0);
            Check.due(x, "told(5)", x.told(5), set, 0);
        }
    }
}
