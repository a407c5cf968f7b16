import java.util.function.Consumer;
import java.util.function.ToLongBiFunction;
import java.util.function.ToLongFunction;

/** Each sentence on ARTICLES, LUCK, and PLACES in a TRAY that names an edge, with a test of its own (54 to 64). */
public final class ArticleEdgeTest {
    private static final int MIN = Integer.MIN_VALUE;
    private static final int MAX = Integer.MAX_VALUE;
    private static final Consumer<StandTable> RICH = Twins::rich;
    private static final Consumer<StandTable> BARE = past("places 3;party a;");
    private static final String DIAMOND = "article a takes 4;article b takes 3 odds 8 a;article c takes 5 odds 12 a;"
        + "article d takes 2 odds 4 c b;article e takes 1 odds 0;";

    public static void main(String[] args) {
        noSuchArticle();
        leansOfNone();
        leansOfWhatLeans();
        fallsIsItselfToo();
        fallsWhetherAgreedOrNot();
        keystoneOfNone();
        keystoneIsTheFirstOfSeveral();
        ordersOfNone();
        ordersOfAllAgreed();
        ordersOfTheRest();
        ordersOfTheMost();
        soonestOfOneThatIs();
        soonestWaitsForItsTurn();
        soonestCountsDaysDone();
        chainOfOneThatIs();
        chainCountsDaysDone();
        chainIsByTheLongerWay();
        chainAndSoonestOfTheMost();
        daysBeyond9999DoNotMatter();
        agreedInNoSuchNumber();
        agreedIn0Days();
        agreedInJustEnough();
        agreedIn300Days();
        luckOfNoSuchArticle();
        luckOf1And0();
        luckOfItsLeansToo();
        luckWithoutACommonDivisor();
        luckWhetherAgreedOrNot();
        weakestOfNone();
        weakestIsTheFirstOfSeveral();
        weakestWithItsLeans();
        copySeatsOfNoSuchTray();
        copySeatsOfMissingAndShort();
        copySeatsOfJustEnough();
        copySeatsOfWhoStands();
        seatByOfNoSuchTray();
        seatByOfMissingAndShort();
        seatByOfNoPlace();
        seatByOfOnePlaceTwice();
        seatByOfWhoStands();
        seatByLooksAtTheFirstNumbers();
        seatByOfNobody();
        thereAndBack();
        Check.close("ArticleEdgeTest");
    }

    private static Consumer<StandTable> past(String committee) {
        return x -> Check.table(x, committee);
    }

    private static void leaves(String what, Consumer<StandTable> past, ToLongFunction<StandTable> call, long due) {
        Twins.leaves(what, past, call, due, 0);
    }

    private static Consumer<StandTable> agreed(String committee, int... articles) {
        return x -> {
            Check.table(x, committee);
            for (int i : articles) {
                x.agree(i);
            }
        };
    }

    private static void wrong(String what, ToLongBiFunction<StandTable, Integer> call) {
        for (int i : new int[] {MIN, -1, 3, 4, 8, 31, 32, MAX}) {
            Twins.refused(what + "(" + i + ") of three", RICH, x -> call.applyAsLong(x, i), 1);
        }
        Twins.refused(what + "(0) of none", Twins::none, x -> call.applyAsLong(x, 0), 1);
        Twins.refused(what + "(0) without ARTICLES", BARE, x -> call.applyAsLong(x, 0), 1);
    }

    private static void noSuchArticle() {
        wrong("leans", (x, i) -> x.leans(i));
        wrong("falls", (x, i) -> x.falls(i));
        wrong("soonest", (x, i) -> x.soonest(i));
        wrong("chain", (x, i) -> x.chain(i));
    }

    // ---- Promises 54 to 57: leans, falls, keystone, orders

    private static void leansOfNone() {
        leaves("leans(0)", past(DIAMOND), x -> x.leans(0), 0);
        leaves("leans(4)", past(DIAMOND), x -> x.leans(4), 0);
    }

    /** "The set of all on which it leans, and on which these lean". */
    private static void leansOfWhatLeans() {
        leaves("leans(1)", past(DIAMOND), x -> x.leans(1), 1);
        leaves("leans(3)", past(DIAMOND), x -> x.leans(3), 7);
        leaves("article(3,2), as told", past(DIAMOND), x -> x.article(3, 2), 6);
        leaves("leans(3), all AGREED", agreed(DIAMOND, 0, 1, 2, 3), x -> x.leans(3), 7);
    }

    /** "Those that would fall with it, itself too". */
    private static void fallsIsItselfToo() {
        int[] due = {15, 10, 12, 8, 16};
        for (int i = 0; i < 5; i++) {
            int article = i;
            leaves("falls(" + i + ")", past(DIAMOND), x -> x.falls(article), due[i]);
        }
    }

    private static void fallsWhetherAgreedOrNot() {
        leaves("falls(0), some AGREED", agreed(DIAMOND, 0, 2), x -> x.falls(0), 15);
        leaves("falls(0), all AGREED", agreed(DIAMOND, 0, 1, 2, 3), x -> x.falls(0), 15);
    }

    private static void keystoneOfNone() {
        Twins.refused("keystone() of none", Twins::none, x -> x.keystone(), 6);
        Twins.refused("keystone() without ARTICLES", BARE, x -> x.keystone(), 6);
    }

    private static void keystoneIsTheFirstOfSeveral() {
        leaves("keystone()", past(DIAMOND), x -> x.keystone(), 0);
        leaves("keystone(), none leans", past("article a takes 1;article b takes 1;"), x -> x.keystone(), 0);
        leaves("keystone(), 1 of 1, 2", past("article a takes 1;article b takes 1;article c takes 1;article d takes 1 c;"
            + "article e takes 1 b;"), x -> x.keystone(), 1);
        leaves("keystone(), later with more", past("article a takes 1;article b takes 1 a;article c takes 1;"
            + "article d takes 1 c;article e takes 1 c;"), x -> x.keystone(), 2);
        leaves("keystone(), AGREED or not", agreed("article a takes 1;article b takes 1 a;article c takes 1;"
            + "article d takes 1 c;article e takes 1 c;", 2, 3, 4), x -> x.keystone(), 2);
    }

    /** "1 if all are AGREED": without ARTICLES, too. */
    private static void ordersOfNone() {
        leaves("orders() of none", Twins::none, x -> x.orders(), 1);
        leaves("orders() without ARTICLES", BARE, x -> x.orders(), 1);
    }

    private static void ordersOfAllAgreed() {
        leaves("orders(), all AGREED", agreed(DIAMOND, 0, 1, 2, 3, 4), x -> x.orders(), 1);
    }

    private static void ordersOfTheRest() {
        leaves("orders()", past(DIAMOND), x -> x.orders(), 10);
        leaves("orders() behind a", agreed(DIAMOND, 0), x -> x.orders(), 8);
        leaves("orders() behind a, e", agreed(DIAMOND, 0, 4), x -> x.orders(), 2);
        leaves("orders() behind a, b, c", agreed(DIAMOND, 0, 1, 2), x -> x.orders(), 2);
        leaves("orders() of one", agreed(DIAMOND, 0, 1, 2, 3), x -> x.orders(), 1);
    }

    private static String eight(String each, boolean inARow) {
        StringBuilder s = new StringBuilder();
        for (char c = 'a'; c <= 'h'; c++) {
            s.append("article ").append(c).append(each).append(inARow && c > 'a' ? " " + (char) (c - 1) : "").append(';');
        }
        return s.toString();
    }

    private static void ordersOfTheMost() {
        leaves("orders() of eight", past(eight(" takes 1", false)), x -> x.orders(), 40320);
        leaves("orders() of eight in a row", past(eight(" takes 1", true)), x -> x.orders(), 1);
        leaves("orders() of seven", agreed(eight(" takes 1", false), 3), x -> x.orders(), 5040);
    }

    // ---- Promises 58 to 60: soonest, chain, agreedIn

    /** "0: AGREED". */
    private static void soonestOfOneThatIs() {
        leaves("soonest(0), AGREED", RICH, x -> x.soonest(0), 0);
        leaves("soonest(1), AGREED", agreed(DIAMOND, 0, 1), x -> x.soonest(1), 0);
    }

    /** "By DAYS as above": those ahead of it are WORKED at first. */
    private static void soonestWaitsForItsTurn() {
        int[] due = {4, 7, 12, 14, 15};
        for (int i = 0; i < 5; i++) {
            int article = i;
            leaves("soonest(" + i + ")", past(DIAMOND), x -> x.soonest(article), due[i]);
        }
        // one that can't be WORKED at yet is passed over
        leaves("soonest(1), one leans", past("article a takes 9;article b takes 2;"), x -> x.soonest(1), 11);
        leaves("soonest(3), behind all that is ahead", agreed(DIAMOND, 0, 1), x -> x.soonest(3), 7);
        leaves("soonest(4), behind all that is ahead", agreed(DIAMOND, 0, 1), x -> x.soonest(4), 8);
    }

    private static void soonestCountsDaysDone() {
        leaves("soonest(1), WORKED at for a day", RICH, x -> x.soonest(1), 2);
        leaves("soonest(2), behind it", RICH, x -> x.soonest(2), 3);
        Consumer<StandTable> fell = x -> {
            RICH.accept(x);
            x.withdraw(0);
        };
        leaves("soonest(1), what it leans on fell", fell, x -> x.soonest(1), 4);
        leaves("soonest(0), fell", fell, x -> x.soonest(0), 2);
    }

    private static void chainOfOneThatIs() {
        leaves("chain(0), AGREED", RICH, x -> x.chain(0), 0);
        leaves("chain(3), AGREED", agreed(DIAMOND, 0, 1, 2, 3), x -> x.chain(3), 0);
    }

    private static void chainCountsDaysDone() {
        leaves("chain(1), WORKED at for a day", RICH, x -> x.chain(1), 2);
        leaves("chain(2), behind it", RICH, x -> x.chain(2), 3);
        Consumer<StandTable> fell = x -> {
            RICH.accept(x);
            x.withdraw(0);
        };
        leaves("chain(1), what it leans on fell", fell, x -> x.chain(1), 4);
    }

    /** "The same if all that can be WORKED at were so each DAY." */
    private static void chainIsByTheLongerWay() {
        int[] due = {4, 7, 9, 11, 1};
        for (int i = 0; i < 5; i++) {
            int article = i;
            leaves("chain(" + i + ")", past(DIAMOND), x -> x.chain(article), due[i]);
        }
        leaves("chain(3), c AGREED", agreed(DIAMOND, 0, 2), x -> x.chain(3), 5);
        leaves("chain(3), b AGREED", agreed(DIAMOND, 0, 1), x -> x.chain(3), 7);
        leaves("chain(3), both AGREED", agreed(DIAMOND, 0, 1, 2), x -> x.chain(3), 2);
        leaves("chain(2), the latter takes longer", past("article a takes 10;article b takes 20;article c takes 1 a b;"),
            x -> x.chain(2), 21);
        leaves("chain(2), the former takes longer", past("article a takes 20;article b takes 10;article c takes 1 b a;"),
            x -> x.chain(2), 21);
    }

    private static void chainAndSoonestOfTheMost() {
        leaves("chain(7) in a row", past(eight(" takes 30", true)), x -> x.chain(7), 240);
        leaves("soonest(7) in a row", past(eight(" takes 30", true)), x -> x.soonest(7), 240);
        leaves("chain(7) side by side", past(eight(" takes 30", false)), x -> x.chain(7), 30);
        leaves("soonest(7) side by side", past(eight(" takes 30", false)), x -> x.soonest(7), 240);
    }

    /** "9,999 does not matter". */
    private static void daysBeyond9999DoNotMatter() {
        Consumer<StandTable> last = x -> {
            Check.table(x, "article a takes 30;article b takes 30;");
            for (int i = 0; i < 101; i++) {
                x.day(99);
            }
            x.withdraw(0);
            x.withdraw(1);
        };
        leaves("agreedIn(29) on DAY 9,999", last, x -> x.agreedIn(29), 0);
        leaves("agreedIn(30) on DAY 9,999", last, x -> x.agreedIn(30), 1);
        leaves("agreedIn(300) on DAY 9,999", last, x -> x.agreedIn(300), 3);
        leaves("soonest(1) on DAY 9,999", last, x -> x.soonest(1), 60);
        leaves("chain(1) on DAY 9,999", last, x -> x.chain(1), 30);
    }

    private static void agreedInNoSuchNumber() {
        for (int n : new int[] {MIN, -1, 301, 302, MAX}) {
            Twins.refused("agreedIn(" + n + ")", RICH, x -> x.agreedIn(n), 1);
            Twins.refused("agreedIn(" + n + ") of none", Twins::none, x -> x.agreedIn(n), 1);
        }
    }

    private static void agreedIn0Days() {
        leaves("agreedIn(0), a AGREED", RICH, x -> x.agreedIn(0), 1);
        leaves("agreedIn(0), none AGREED", past(DIAMOND), x -> x.agreedIn(0), 0);
        leaves("agreedIn(0) of none", Twins::none, x -> x.agreedIn(0), 0);
    }

    private static void agreedInJustEnough() {
        int[] days = {3, 4, 6, 7, 11, 12, 13, 14, 15};
        int[] due = {0, 1, 1, 3, 3, 7, 7, 15, 31};
        for (int i = 0; i < days.length; i++) {
            int n = days[i];
            leaves("agreedIn(" + n + ")", past(DIAMOND), x -> x.agreedIn(n), due[i]);
        }
    }

    private static void agreedIn300Days() {
        leaves("agreedIn(300)", past(eight(" takes 30", true)), x -> x.agreedIn(300), 255);
        leaves("agreedIn(240)", past(eight(" takes 30", true)), x -> x.agreedIn(240), 255);
        leaves("agreedIn(239)", past(eight(" takes 30", true)), x -> x.agreedIn(239), 127);
        leaves("agreedIn(300) of none", Twins::none, x -> x.agreedIn(300), 0);
    }

    // ---- Promises 61, 62: luck, weakest

    private static void luckOfNoSuchArticle() {
        for (int i : new int[] {MIN, -1, 3, 4, 8, 31, 32, MAX}) {
            Twins.denied("luck(" + i + ") of three", RICH, x -> x.luck(i), 1);
        }
        Twins.denied("luck(0) of none", Twins::none, x -> x.luck(0), 1);
    }

    private static void luck(String what, Consumer<StandTable> past, int article, long top, long bottom) {
        StandTable x = new StandTable();
        past.accept(x);
        x.told(-1);
        Check.due(x, "luck(" + article + ") " + what, x.luck(article), true, 0);
        Check.due("top() " + what, x.top(), top);
        Check.due("bottom() " + what, x.bottom(), bottom);
    }

    /** "0 is 0 by 1": of odds 0; of odds 16 it is 1 by 1. */
    private static void luckOf1And0() {
        luck("of odds 16", past(DIAMOND), 0, 1, 1);
        luck("of odds 0", past(DIAMOND), 4, 0, 1);
        luck("of odds 1", past("article a takes 1 odds 1;"), 0, 1, 16);
        luck("of odds 15", past("article a takes 1 odds 15;"), 0, 15, 16);
        luck("of odds 0 in a row", past("article a takes 1 odds 0;article b takes 1 a;"), 1, 0, 1);
        luck("of odds 16 in a row", past(eight(" takes 1", true)), 7, 1, 1);
    }

    /** "That an ARTICLE holds, and all of its LEANS": each once, by whatever ways it leans on it. */
    private static void luckOfItsLeansToo() {
        luck("of a diamond", past(DIAMOND), 3, 3, 32);
        luck("of what is leant on twice", past("article a takes 1 odds 3;article b takes 1 a;article c takes 1 a;"
            + "article d takes 1 b c;"), 3, 3, 16);
    }

    private static void luckWithoutACommonDivisor() {
        luck("of 8 by 16", past("article a takes 1 odds 8;"), 0, 1, 2);
        luck("of 12 by 16", past("article a takes 1 odds 12;"), 0, 3, 4);
        luck("of 15 eight times", past(eight(" takes 1 odds 15", true)), 7, 2562890625L, 4294967296L);
        luck("of 1 eight times", past(eight(" takes 1 odds 1", true)), 7, 1, 4294967296L);
        luck("of 12 eight times", past(eight(" takes 1 odds 12", true)), 7, 6561, 65536);
    }

    private static void luckWhetherAgreedOrNot() {
        luck("AGREED", agreed(DIAMOND, 0, 1, 2, 3), 3, 3, 32);
        luck("half AGREED", agreed(DIAMOND, 0, 1), 3, 3, 32);
    }

    private static void weakestOfNone() {
        Twins.refused("weakest() of none", Twins::none, x -> x.weakest(), 6);
        Twins.refused("weakest() without ARTICLES", BARE, x -> x.weakest(), 6);
    }

    private static void weakestIsTheFirstOfSeveral() {
        leaves("weakest(), all sure", past("article a takes 1;article b takes 1;"), x -> x.weakest(), 0);
        leaves("weakest(), all as weak", past("article a takes 1 odds 0;article b takes 1 odds 0;"), x -> x.weakest(), 0);
        leaves("weakest(), 1 of 1, 3", past("article a takes 1 odds 5;article b takes 1 odds 4;article c takes 1 odds 8;"
            + "article d takes 1 odds 8 c;"), x -> x.weakest(), 1);
        leaves("weakest(), 1 of 1, 2 that are never", past("article a takes 1 odds 1;article b takes 1 odds 0;"
            + "article c takes 1 odds 9 b;"), x -> x.weakest(), 1);
    }

    private static void weakestWithItsLeans() {
        leaves("weakest(), the last", past("article a takes 1 odds 9;article b takes 1 odds 9 a;article c takes 1 odds 6;"
            + "article d takes 1 odds 15 b;"), x -> x.weakest(), 3);
        leaves("weakest() in a row of eight", past(eight(" takes 1 odds 15", true)), x -> x.weakest(), 7);
        leaves("weakest() that the FRACTION does not show", RICH, x -> x.weakest(), 2);
    }

    // ---- Promise 63: "PLACES of all PARTIES come to a TRAY, one by one (-1: it stands): how many (1; 2; 3)"

    private static void copySeatsOfNoSuchTray() {
        for (int t : new int[] {MIN, -1, 4, 5, MAX}) {
            Twins.refused("copySeats(" + t + ")", RICH, x -> x.copySeats(t), 1);
        }
    }

    private static void copySeatsOfMissingAndShort() {
        Twins.refused("copySeats(3), MISSING", RICH, x -> x.copySeats(3), 2);
        Twins.refused("copySeats(2), two numbers for three", RICH, x -> x.copySeats(2), 3);
        Twins.refused("copySeats(0), MISSING, of nobody", Twins::none, x -> x.copySeats(0), 2);
    }

    private static void copySeatsOfJustEnough() {
        for (int sort = 0; sort < 4; sort++) {
            int s = sort;
            Consumer<StandTable> past = x -> {
                Check.table(x, "places 6;party a at 5;party b at 0;party c;");
                x.tray(3, s, 3);
            };
            Twins.comesTo("copySeats(3) of sort " + sort, past, x -> x.copySeats(3), 3, x -> {
                x.write(3, 0, 5);
                x.write(3, 1, 0);
                x.write(3, 2, -1);
            });
        }
        Twins.comesTo("copySeats(0), one number more", RICH, x -> x.copySeats(0), 3, x -> {
            x.write(0, 0, 1);
            x.write(0, 1, 2);
            x.write(0, 2, -1);
        });
        Consumer<StandTable> empty = x -> x.tray(1, 2, 0);
        leaves("copySeats(1) of nobody", empty, x -> x.copySeats(1), 0);
    }

    /** "-1: it stands", of each sort. */
    private static void copySeatsOfWhoStands() {
        StandTable x = Check.table("places 3;party a;", null);
        for (int sort = 0; sort < 4; sort++) {
            x.tray(sort, sort, 1);
            Check.due(x, "copySeats", x.copySeats(sort), 1, 0);
            Check.due(x, "read of who stands, sort " + sort, x.read(sort, 0), -1, 0);
        }
    }

    // ---- Promise 64: seatBy (1; 2; 3; 5: no PLACE nor -1, one PLACE twice)

    private static Consumer<StandTable> told(int sort, long... numbers) {
        return x -> {
            RICH.accept(x);
            x.tray(3, sort, numbers.length);
            for (int i = 0; i < numbers.length; i++) {
                x.write(3, i, numbers[i]);
            }
        };
    }

    private static void seatByOfNoSuchTray() {
        for (int t : new int[] {MIN, -1, 4, 5, MAX}) {
            Twins.refused("seatBy(" + t + ")", RICH, x -> x.seatBy(t), 1);
        }
    }

    private static void seatByOfMissingAndShort() {
        Twins.refused("seatBy(3), MISSING", RICH, x -> x.seatBy(3), 2);
        Twins.refused("seatBy(2), two numbers for three", RICH, x -> x.seatBy(2), 3);
        Twins.refused("seatBy(3), none", told(0), x -> x.seatBy(3), 3);
        Twins.refused("seatBy(3): 3 ahead of 5", told(0, 9, 9), x -> x.seatBy(3), 3);
    }

    /** "5: no PLACE nor -1". */
    private static void seatByOfNoPlace() {
        for (long v : new long[] {-2, 4, 5, Long.MIN_VALUE, Long.MAX_VALUE, 1L << 32, (1L << 32) - 1, -1L << 32,
            MIN, MAX}) {
            Twins.refused("seatBy(3), the first " + v, told(3, v, 1, 2), x -> x.seatBy(3), 5);
            Twins.refused("seatBy(3), the last " + v, told(3, 0, 1, v), x -> x.seatBy(3), 5);
        }
        Twins.refused("seatBy(3), -2 of 8 bits", told(0, 0, 254, 1), x -> x.seatBy(3), 5);
        Twins.refused("seatBy(0), 3 -1 2: no fault, but 4 in a ring of 4", told(1, 3, -1, 4), x -> x.seatBy(3), 5);
    }

    private static void seatByOfOnePlaceTwice() {
        Twins.refused("seatBy(3), 0 twice", told(0, 0, 0, -1), x -> x.seatBy(3), 5);
        Twins.refused("seatBy(3), 3 twice", told(0, 3, -1, 3), x -> x.seatBy(3), 5);
        Twins.refused("seatBy(3), 1 thrice", told(0, 1, 1, 1), x -> x.seatBy(3), 5);
        Twins.refused("seatBy(3), the last two", told(0, 0, 2, 2), x -> x.seatBy(3), 5);
    }

    /** -1 may stand any number of times. */
    private static void seatByOfWhoStands() {
        Twins.comesTo("seatBy(3), all stand", told(0, -1, -1, -1), x -> x.seatBy(3), 6, x -> {
            x.rise(0);
            x.rise(1);
        });
        Twins.comesTo("seatBy(3), 255 of 8 bits", told(0, 255, 255, 255), x -> x.seatBy(3), 6, x -> {
            x.rise(0);
            x.rise(1);
        });
        Twins.comesTo("seatBy(0): 3, stands, 2", RICH, x -> x.seatBy(0), 6, x -> {
            x.sit(0, 3);
            x.rise(1);
            x.sit(2, 2);
        });
    }

    /** "As the first numbers of a TRAY tell": what stands behind them does not matter. */
    private static void seatByLooksAtTheFirstNumbers() {
        Twins.comesTo("seatBy(3)", told(2, 1, 3, 0, 0, 99, -7), x -> x.seatBy(3), 7, x -> {
            x.sit(1, 3);
            x.sit(2, 0);
        });
        // each may go where another one sat
        Twins.comesTo("seatBy(3), round", told(2, 2, 1, -1), x -> x.seatBy(3), 4, x -> x.swap(0, 1));
    }

    private static void seatByOfNobody() {
        Consumer<StandTable> nobody = x -> {
            Check.table(x, "places 3;");
            x.tray(0, 0, 0);
            x.tray(1, 0, 1);
            x.write(1, 0, 99);
        };
        leaves("seatBy(0) of nobody", nobody, x -> x.seatBy(0), 0);
        leaves("seatBy(1) of nobody", nobody, x -> x.seatBy(1), 0);
    }

    private static void thereAndBack() {
        StandTable x = Check.table("places 6;party a at 5;party b;party c at 0;party d at 3;party e;", null);
        x.tray(0, 0, 5);
        Check.due(x, "copySeats(0)", x.copySeats(0), 5, 0);
        x.turn(2);
        x.rise(0);
        x.sit(1, 0);
        Check.due(x, "seatBy(0)", x.seatBy(0), 31, 0);
        int[] due = {5, -1, 0, 3, -1};
        for (int p = 0; p < 5; p++) {
            Check.due(x, "placeOf(" + p + ")", x.placeOf(p), due[p], due[p] < 0 ? 6 : 0);
        }
    }
}
