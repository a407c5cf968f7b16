import java.util.function.Consumer;
import java.util.function.ToLongBiFunction;
import java.util.function.ToLongFunction;

/** Each sentence on SEATINGS and games that names an edge, with a test of its own (promises 35 to 53 and part 3). */
public final class SeatingEdgeTest {
    private static final int MIN = Integer.MIN_VALUE;
    private static final int MAX = Integer.MAX_VALUE;
    private static final Consumer<StandTable> RICH = Twins::rich;
    /** No PLACES, so no SEATINGS. */
    private static final Consumer<StandTable> BARE = past("article x takes 1;");
    /** One SEATING, of nobody. */
    private static final Consumer<StandTable> NOBODY = past("places 6;corner 0;");

    public static void main(String[] args) {
        noPlacesNoSeatings();
        oneSeatingWithoutParties();
        howManySeatings();
        goodIsOneThatAllSign();
        goodWhereNobodyAsks();
        classesOfAllSeatings();
        classesTurned();
        classesTurnedAlone();
        classesMirrored();
        classesOfNone();
        goodAtOfNoSuchParty();
        goodAtOfNone();
        goodAtIsTheFirst();
        goodAtIsTheLast();
        bestBelow0();
        bestIsTheFirstOfSeveral();
        bestAtOfNoSuchParty();
        mostSignOfNoneAndAll();
        quarrelOfNone();
        quarrelIsOfTheFewest();
        quarrelIsTheLeastAsANumber();
        pleasedOfNoSuchSet();
        pleasedOfNobody();
        pleasedInOneSeating();
        mostForOfNoSuchParty();
        mostForBelow0();
        signsInOfNoSuchParty();
        signsInNoneAndAll();
        seatBestSeatsAll();
        fishOfNobody();
        fishIsOfWhoDoesNotSign();
        fishBelow0();
        leastFishOfAll();
        bestSwapOfNone();
        bestSwapOfOneThatSits();
        bestSwapGrowsAbove0();
        bestSwapIsTheLeastOfSeveral();
        bestSwapTellsTheLesserFirst();
        bestTurnOfNone();
        bestTurnIsMoreThanNow();
        bestTurnIsTheLeastOfSeveral();
        bestTurnFrom1ToPlacesLess1();
        signsByOfNoSuchParty();
        signsByOfOneAndItself();
        signsByOfTwoThatStand();
        signsByOfOneThatStands();
        gameOfNoSuchNumber();
        gameOfOneAndItself();
        gameOfOneThatStands();
        gameOf0Turns();
        gameOfUpTo3Turns();
        gameBelow0();
        gameWithWhoSitsThere();
        gameWithTheOther();
        moveOf0Turns();
        moveIsTheLeastPlace();
        stayingComesLast();
        itStays();
        gamesLeaveAll();
        Check.close("SeatingEdgeTest");
    }

    private static Consumer<StandTable> past(String committee) {
        return x -> Check.table(x, committee);
    }

    private static void leaves(String what, Consumer<StandTable> past, ToLongFunction<StandTable> call, long due) {
        Twins.leaves(what, past, call, due, 0);
    }

    private static void parties(String what, ToLongBiFunction<StandTable, Integer> call) {
        for (int p : new int[] {MIN, -1, 3, 4, 5, 31, 32, MAX}) {
            Twins.refused(what + "(" + p + ") of three", RICH, x -> call.applyAsLong(x, p), 1);
        }
        Twins.refused(what + "(0) of none", Twins::none, x -> call.applyAsLong(x, 0), 1);
        Twins.refused(what + "(0) without PARTIES", NOBODY, x -> call.applyAsLong(x, 0), 1);
    }

    // ---- no PLACES, no PARTIES

    /** "0: no PLACES"; "6: no SEATINGS". */
    private static void noPlacesNoSeatings() {
        leaves("seatings() of no PLACES", BARE, x -> x.seatings(), 0);
        leaves("good() of no PLACES", BARE, x -> x.good(), 0);
        leaves("classes() of no PLACES", BARE, x -> x.classes(), 0);
        Twins.refused("best() of no PLACES", BARE, x -> x.best(), 6);
        Twins.refused("mostSign() of no PLACES", BARE, x -> x.mostSign(), 6);
        Twins.refused("quarrel() of no PLACES", BARE, x -> x.quarrel(), 6);
        Twins.refused("pleased(0) of no PLACES", BARE, x -> x.pleased(0), 6);
        Twins.refused("seatBest() of no PLACES", BARE, x -> x.seatBest(), 6);
        Twins.refused("leastFish() of no PLACES", BARE, x -> x.leastFish(), 6);
        leaves("fish() of no PLACES", BARE, x -> x.fish(), 0);
        Twins.refused("bestSwap() of no PLACES", BARE, x -> x.bestSwap(), 6);
        Twins.refused("bestTurn() of no PLACES", BARE, x -> x.bestTurn(), 6);
    }

    /** "Else 1 without PARTIES"; "without PARTIES all". */
    private static void oneSeatingWithoutParties() {
        leaves("seatings() of nobody", NOBODY, x -> x.seatings(), 1);
        leaves("good() of nobody", NOBODY, x -> x.good(), 1);
        leaves("classes() of nobody", NOBODY, x -> x.classes(), 1);
        leaves("best() of nobody", NOBODY, x -> x.best(), 0);
        leaves("mostSign() of nobody", NOBODY, x -> x.mostSign(), 0);
        Twins.refused("quarrel() of nobody", NOBODY, x -> x.quarrel(), 6);
        leaves("pleased(0) of nobody", NOBODY, x -> x.pleased(0), 1);
        leaves("seatBest() of nobody", NOBODY, x -> x.seatBest(), 0);
        leaves("leastFish() of nobody", NOBODY, x -> x.leastFish(), 0);
        leaves("fish() of nobody", NOBODY, x -> x.fish(), 0);
    }

    private static void howManySeatings() {
        int[][] due = {{3, 6, 6}, {4, 12, 24, 24}, {5, 20, 60, 120, 120}, {6, 30, 120, 360, 720}};
        for (int n = 3; n <= 6; n++) {
            String text = "places " + n + ";";
            for (int p = 0; p < Math.min(n, 5); p++) {
                text += "party " + (char) ('a' + p) + " least 1;";
                leaves("seatings() of '" + text + "'", past(text), x -> x.seatings(), due[n - 3][p]);
                leaves("good() of '" + text + "'", past(text), x -> x.good(), 0);
                leaves("good() of all", past(text.replace(" least 1", "")), x -> x.good(), due[n - 3][p]);
            }
        }
    }

    // ---- Promises 36 to 38: good, classes, goodAt

    private static void goodIsOneThatAllSign() {
        String text = "places 4;corner 0;corner 1;party a least L;party b least M;wants a corner worth 2;"
            + "wants b corner worth 3;";
        int[][] due = {{0, 0, 12}, {2, 0, 6}, {0, 3, 6}, {2, 3, 2}, {3, 3, 0}, {2, 4, 0}, {3, 4, 0}};
        for (int[] d : due) {
            leaves("good() for " + d[0] + ", " + d[1], past(text.replace("L", "" + d[0]).replace("M", "" + d[1])),
                x -> x.good(), d[2]);
        }
    }

    /** Who sits and who stands now does not matter. */
    private static void goodWhereNobodyAsks() {
        String text = "places 3;corner 0;party a least 1 at 2;party b;wants a corner worth 1;";
        leaves("good(), a at 2", past(text), x -> x.good(), 2);
        leaves("good(), a stands", past(text.replace(" at 2", "")), x -> x.good(), 2);
        leaves("good(), a at 0", past(text.replace("at 2", "at 0")), x -> x.good(), 2);
        leaves("goodAt(1), a at 0", past(text.replace("at 2", "at 0")), x -> x.goodAt(1), 1);
    }

    private static void classesOfAllSeatings() {
        int[][] due = {{1, 1, 1}, {1, 2, 3, 3}, {1, 2, 6, 12, 12}, {1, 3, 10, 30, 60}};
        for (int n = 3; n <= 6; n++) {
            String text = "places " + n + ";";
            for (int p = 0; p < Math.min(n, 5); p++) {
                text += "party " + (char) ('a' + p) + ";";
                leaves("classes() of '" + text + "'", past(text), x -> x.classes(), due[n - 3][p]);
            }
        }
    }

    /** "One counted, if one of them at least is GOOD": all of a ring are ALIKE turned, one of them is GOOD. */
    private static void classesTurned() {
        for (int n = 3; n <= 6; n++) {
            for (int corner = 0; corner < n; corner++) {
                Consumer<StandTable> one = past("places " + n + ";corner " + corner
                    + ";party a least 1;wants a corner worth 1;");
                leaves("good() of one corner of " + n, one, x -> x.good(), 1);
                leaves("classes() of one corner of " + n, one, x -> x.classes(), 1);
            }
        }
        Consumer<StandTable> two = past("places 6;corner 1;corner 4;party a least 1;party b;wants a corner worth 1;");
        leaves("good() of two corners", two, x -> x.good(), 10);
        leaves("classes() of two corners", two, x -> x.classes(), 3);
    }

    /** Two GOOD ones, each the other turned round by 3, and no mirror image of it. */
    private static void classesTurnedAlone() {
        Consumer<StandTable> row = past("places 6;corner 2;corner 3;corner 5;party a;party b least 2;party c least 1;"
            + "party d least 1;party e least 2;shuns a corner worth 1;wants b corner worth 1;wants b beside a worth 1;"
            + "wants c beside b worth 1;wants d beside c worth 1;shuns d corner worth 9;wants e beside d worth 1;"
            + "wants e corner worth 1;");
        leaves("good() turned by 3", row, x -> x.good(), 2);
        leaves("goodAt(0) turned by 3", row, x -> x.goodAt(0), 1);
        leaves("goodAt(4) turned by 3", row, x -> x.goodAt(4), 5);
        leaves("classes() turned by 3", row, x -> x.classes(), 1);
    }

    /** a, b, c one behind the other this way round, and that way round: no turning makes one of the other. */
    private static void classesMirrored() {
        String text = "places 6;corner 0;party a least 2;party b least 2;party c least 1;wants a corner worth 2;"
            + "wants b beside a worth 1;wants b beside c worth 1;shuns c beside a worth 9;wants c facing b worth 9;"
            + "wants c beside b worth 1;";
        leaves("good() both ways round", past(text), x -> x.good(), 2);
        leaves("classes() both ways round", past(text), x -> x.classes(), 1);
        String both = text.replace("corner 0;", "corner 0;corner 2;");
        leaves("good() both ways round, twice", past(both), x -> x.good(), 4);
        leaves("classes() both ways round, twice", past(both), x -> x.classes(), 1);
    }

    private static void classesOfNone() {
        leaves("classes() of none GOOD", past("places 4;party a least 1;"), x -> x.classes(), 0);
    }

    private static void goodAtOfNoSuchParty() {
        parties("goodAt", (x, p) -> x.goodAt(p));
    }

    /** "6: none". */
    private static void goodAtOfNone() {
        Consumer<StandTable> none = past("places 4;party a least 1;party b;");
        Twins.refused("goodAt(0) of none", none, x -> x.goodAt(0), 6);
        Twins.refused("goodAt(1) of none", none, x -> x.goodAt(1), 6);
        Twins.refused("goodAt(2) of none: 1 ahead of 6", none, x -> x.goodAt(2), 1);
    }

    /** "The first of several is by the PLACE of PARTY 0, then 1, and so on." */
    private static void goodAtIsTheFirst() {
        Consumer<StandTable> any = past("places 6;party a;party b;party c;party d;party e;");
        for (int p = 0; p < 5; p++) {
            int party = p;
            leaves("goodAt(" + p + ") of all", any, x -> x.goodAt(party), p);
        }
        Consumer<StandTable> three = past("places 5;corner 2;corner 4;party a;party b least 1;party c least 1;"
            + "wants b corner worth 1;wants c beside a worth 1;");
        leaves("goodAt(0)", three, x -> x.goodAt(0), 0);
        leaves("goodAt(1)", three, x -> x.goodAt(1), 2);
        leaves("goodAt(2)", three, x -> x.goodAt(2), 1);
    }

    private static void goodAtIsTheLast() {
        Consumer<StandTable> last = past("places 4;corner 3;party a least 1;party b least 1;wants a corner worth 1;"
            + "wants b beside a worth 1;shuns b corner worth 9;");
        leaves("good()", last, x -> x.good(), 2);
        leaves("goodAt(0)", last, x -> x.goodAt(0), 3);
        leaves("goodAt(1)", last, x -> x.goodAt(1), 0);
    }

    // ---- Promises 39, 40: best, bestAt

    private static void bestBelow0() {
        Consumer<StandTable> shy = past("places 3;party a;party b;shuns a beside b worth 1;");
        leaves("best(), -1", shy, x -> x.best(), -1);
        leaves("bestAt(0)", shy, x -> x.bestAt(0), 0);
        leaves("bestAt(1)", shy, x -> x.bestAt(1), 1);
        leaves("best(), the least of all", past("places 3;party a;party b;" + "shuns a beside b worth 9;".repeat(20)),
            x -> x.best(), -180);
        leaves("best(), the most of all", past("places 3;party a;party b;" + "wants a beside b worth 9;".repeat(20)),
            x -> x.best(), 180);
    }

    /** "Of several the first". */
    private static void bestIsTheFirstOfSeveral() {
        Consumer<StandTable> past = past("places 4;corner 1;corner 3;party a;party b;wants b corner worth 2;");
        leaves("best()", past, x -> x.best(), 2);
        leaves("bestAt(0)", past, x -> x.bestAt(0), 0);
        leaves("bestAt(1)", past, x -> x.bestAt(1), 1);
        Consumer<StandTable> last = past("places 4;corner 3;party a;party b;wants a corner worth 2;wants b facing a worth 1;");
        leaves("best() of the last", last, x -> x.best(), 3);
        leaves("bestAt(0) of the last", last, x -> x.bestAt(0), 3);
        leaves("bestAt(1) of the last", last, x -> x.bestAt(1), 1);
        Consumer<StandTable> alike = past("places 6;party a;party b;party c;");
        Consumer<StandTable> shy = past("places 4;corner 1;corner 2;corner 3;party a;shuns a corner worth 5;");
        leaves("best() without WISHES", alike, x -> x.best(), 0);
        leaves("best(), 0 ahead of what is below", shy, x -> x.best(), 0);
        leaves("bestAt(0), 0 ahead of what is below", shy, x -> x.bestAt(0), 0);
        for (int p = 0; p < 3; p++) {
            int party = p;
            leaves("bestAt(" + p + ") without WISHES", alike, x -> x.bestAt(party), p);
        }
    }

    private static void bestAtOfNoSuchParty() {
        parties("bestAt", (x, p) -> x.bestAt(p));
    }

    // ---- Promises 41 to 45: mostSign, quarrel, pleased, mostFor, signsIn

    private static void mostSignOfNoneAndAll() {
        leaves("mostSign(), none", past("places 3;party a least 1;party b least 1;"), x -> x.mostSign(), 0);
        leaves("mostSign(), all", past("places 6;party a;party b;party c;party d;party e;"), x -> x.mostSign(), 5);
        leaves("mostSign(), the first", past("places 3;party a;party b least 1;"), x -> x.mostSign(), 1);
        leaves("mostSign(), one of two", past("places 3;corner 0;party a least 1;party b least 1;wants a corner worth 1;"
            + "wants b corner worth 1;"), x -> x.mostSign(), 1);
    }

    /** "6: there is none". */
    private static void quarrelOfNone() {
        Twins.refused("quarrel() of none", past("places 3;party a;party b;"), x -> x.quarrel(), 6);
        Twins.refused("quarrel() of none", past("places 3;corner 2;party a least 1;wants a corner worth 1;"),
            x -> x.quarrel(), 6);
    }

    /** "The fewest PARTIES": one alone goes ahead of two with a lesser number. */
    private static void quarrelIsOfTheFewest() {
        String text = "places 4;corner 0;party a least 1;party b least 1;party c least L;wants a corner worth 1;"
            + "wants b corner worth 1;";
        leaves("quarrel() of two", past(text.replace("L", "0")), x -> x.quarrel(), 3);
        leaves("quarrel() of one", past(text.replace("L", "1")), x -> x.quarrel(), 4);
        String three = "places 6;corner 0;corner 2;party a least 1;party b least 1;party c least 1;"
            + "wants a corner worth 1;wants b corner worth 1;wants c corner worth 1;";
        leaves("quarrel() of three", past(three), x -> x.quarrel(), 7);
        String five = "places 6;corner 0;corner 1;corner 2;corner 3;" + "party a least 1;party b least 1;party c least 1;"
            + "party d least 1;party e least 1;wants a corner worth 1;wants b corner worth 1;wants c corner worth 1;"
            + "wants d corner worth 1;wants e corner worth 1;";
        leaves("quarrel() of five", past(five), x -> x.quarrel(), 31);
        leaves("mostSign() of five", past(five), x -> x.mostSign(), 4);
    }

    /** "Of several sets the least as a number (1 for PARTY 0 ..)". */
    private static void quarrelIsTheLeastAsANumber() {
        leaves("quarrel() of each", past("places 6;party a;party b least 1;party c;party d least 1;party e least 1;"),
            x -> x.quarrel(), 2);
        leaves("quarrel() of each two", past("places 6;corner 5;party a least 1;party b;party c least 1;party d least 1;"
            + "wants a corner worth 1;wants c corner worth 1;wants d corner worth 1;"), x -> x.quarrel(), 5);
        leaves("quarrel() of the last", past("places 6;party a;party b;party c;party d;party e least 1;"),
            x -> x.quarrel(), 16);
    }

    private static void pleasedOfNoSuchSet() {
        for (int set : new int[] {MIN, -1, 8, 9, 16, 1 << 30, MAX}) {
            Twins.refused("pleased(" + set + ") of three", RICH, x -> x.pleased(set), 1);
        }
        Twins.refused("pleased(1) of no PLACES: 1 ahead of 6", BARE, x -> x.pleased(1), 1);
        Twins.refused("pleased(1) of nobody", NOBODY, x -> x.pleased(1), 1);
        Twins.refused("pleased(-1) of nobody", NOBODY, x -> x.pleased(-1), 1);
        Twins.refused("pleased(32) of five", past("places 6;party a;party b;party c;party d;party e;"),
            x -> x.pleased(32), 1);
        leaves("pleased(31) of five", past("places 6;party a;party b;party c;party d;party e;"), x -> x.pleased(31), 1);
    }

    private static void pleasedOfNobody() {
        leaves("pleased(0), nobody can be", past("places 3;party a least 50;"), x -> x.pleased(0), 1);
    }

    /** "1 if all PARTIES of a set SIGN in some SEATING of all": in one and the same. */
    private static void pleasedInOneSeating() {
        Consumer<StandTable> past = past("places 4;corner 0;party a least 1;party b least 1;party c least 50;party d;"
            + "wants a corner worth 1;wants b corner worth 1;");
        for (int set = 0; set < 16; set++) {
            int parties = set;
            boolean due = (set & 4) == 0 && (set & 3) != 3;
            leaves("pleased(" + set + ")", past, x -> x.pleased(parties), due ? 1 : 0);
        }
    }

    private static void mostForOfNoSuchParty() {
        parties("mostFor", (x, p) -> x.mostFor(p));
    }

    private static void mostForBelow0() {
        Consumer<StandTable> shy = past("places 3;party a;party b;party c;shuns a beside b worth 1;"
            + "shuns b beside c worth 9;shuns b beside a worth 9;wants c facing b worth 9;");
        leaves("mostFor(0), -1", shy, x -> x.mostFor(0), -1);
        leaves("mostFor(1)", shy, x -> x.mostFor(1), -18);
        leaves("mostFor(2), never", shy, x -> x.mostFor(2), 0);
    }

    private static void signsInOfNoSuchParty() {
        parties("signsIn", (x, p) -> x.signsIn(p));
    }

    private static void signsInNoneAndAll() {
        Consumer<StandTable> past = past("places 6;corner 5;party a least 1;party b least 2;party c;party d least 1;party e;"
            + "wants a corner worth 1;wants b corner worth 1;shuns e corner worth 1;");
        leaves("signsIn(0), of 720", past, x -> x.signsIn(0), 120);
        leaves("signsIn(1), none", past, x -> x.signsIn(1), 0);
        leaves("signsIn(2), all", past, x -> x.signsIn(2), 720);
        leaves("signsIn(4), of 720", past, x -> x.signsIn(4), 600);
    }

    // ---- Promises 46 to 48: seatBest, fish, leastFish

    /** "All sit as in BEST": who stood, too. */
    private static void seatBestSeatsAll() {
        Consumer<StandTable> past = past("places 4;corner 3;party a at 2;party b;party c at 3;wants b corner worth 4;");
        Twins.comesTo("seatBest()", past, x -> x.seatBest(), 4, x -> {
            x.rise(0);
            x.rise(2);
            x.sit(0, 0);
            x.sit(1, 3);
            x.sit(2, 1);
        });
        Twins.comesTo("seatBest(), below 0", past("places 3;party a;party b;shuns a beside b worth 1;"),
            x -> x.seatBest(), -1, x -> {
                x.sit(0, 0);
                x.sit(1, 1);
            });
        leaves("seatBest() again", x -> {
            past.accept(x);
            x.seatBest();
        }, x -> x.seatBest(), 4);
    }

    private static void fishOfNobody() {
        leaves("fish() of none", Twins::none, x -> x.fish(), 0);
        leaves("fish(), all stand", past("places 3;party a least 3;party b least 50;party c;"), x -> x.fish(), 53);
    }

    /** "0 for who SIGNS": what one has above its LEAST helps nobody. */
    private static void fishIsOfWhoDoesNotSign() {
        Consumer<StandTable> past = past("places 4;corner 0;party a least 1 at 0;party b least 3 at 1;party c least 2;"
            + "wants a corner worth 9;wants b beside a worth 3;");
        leaves("fish()", past, x -> x.fish(), 2);
        leaves("fish() of one short by 1", past("places 3;corner 0;party a least 4 at 0;wants a corner worth 3;"),
            x -> x.fish(), 1);
    }

    private static void fishBelow0() {
        leaves("fish() of -9 for a LEAST of 0", past("places 3;corner 0;party a at 0;shuns a corner worth 9;"),
            x -> x.fish(), 9);
    }

    private static void leastFishOfAll() {
        leaves("leastFish(), none is short", past("places 3;party a;"), x -> x.leastFish(), 0);
        leaves("leastFish(), in the first", past("places 3;corner 0;party a least 3;wants a corner worth 2;"),
            x -> x.leastFish(), 1);
        leaves("leastFish(), in the last", past("places 3;corner 2;party a least 3;wants a corner worth 2;"),
            x -> x.leastFish(), 1);
        leaves("leastFish(), of both together", past("places 4;corner 0;party a least 5;party b least 3;"
            + "wants a corner worth 4;wants b corner worth 3;"), x -> x.leastFish(), 4);
        leaves("leastFish(), all stand now", past("places 3;party a least 50;party b least 50;"), x -> x.leastFish(), 100);
    }

    // ---- Promises 49, 50: bestSwap, bestTurn

    /** "6: none". */
    private static void bestSwapOfNone() {
        Twins.refused("bestSwap() of none", Twins::none, x -> x.bestSwap(), 6);
        Twins.refused("bestSwap() of one", past("places 3;corner 0;party a at 1;wants a corner worth 1;"),
            x -> x.bestSwap(), 6);
        Twins.refused("bestSwap(), all stand", past("places 3;corner 0;corner 1;corner 2;party a;party b;"
            + "wants a corner worth 1;wants b corner worth 1;"), x -> x.bestSwap(), 6);
    }

    /** "Of which one sits at least". */
    private static void bestSwapOfOneThatSits() {
        leaves("bestSwap(), the other stands", past("places 3;corner 0;party a at 0;party b;wants b corner worth 1;"),
            x -> x.bestSwap(), 1);
        leaves("bestSwap(), the first stands", past("places 3;corner 0;party a;party b at 0;wants a corner worth 1;"),
            x -> x.bestSwap(), 1);
    }

    /** "Grows the most, above 0". */
    private static void bestSwapGrowsAbove0() {
        Twins.refused("bestSwap() that changes nothing", past("places 3;party a at 0;party b at 1;"), x -> x.bestSwap(), 6);
        Twins.refused("bestSwap() that makes it less", past("places 3;corner 0;party a at 0;party b at 1;"
            + "wants a corner worth 1;"), x -> x.bestSwap(), 6);
        leaves("bestSwap() by 1", past("places 3;corner 0;corner 1;party a at 0;party b at 2;wants b corner worth 2;"
            + "wants a corner worth 1;"), x -> x.bestSwap(), 1);
        leaves("bestSwap() to below 0", past("places 3;corner 0;party a at 0;party b at 1;shuns a corner worth 2;"
            + "shuns b corner worth 1;"), x -> x.bestSwap(), 1);
    }

    /** "Of several the least". */
    private static void bestSwapIsTheLeastOfSeveral() {
        Consumer<StandTable> past = past("places 6;corner 0;party a at 0;party b;party c at 2;party d;"
            + "wants b corner worth 3;wants c corner worth 3;wants d corner worth 3;");
        leaves("bestSwap(), 1 of 1, 2, 3", past, x -> x.bestSwap(), 1);
        Consumer<StandTable> later = past("places 6;corner 0;corner 1;party a at 2;party b at 3;party c at 0;party d at 1;"
            + "wants a corner worth 2;wants b corner worth 2;");
        leaves("bestSwap(), 2 of 2, 3, 12, 13", later, x -> x.bestSwap(), 2);
        Consumer<StandTable> most = past("places 6;corner 0;party a at 2;party b at 3;party c at 0;"
            + "wants a corner worth 1;wants b corner worth 5;");
        leaves("bestSwap(), 12 by more than 2", most, x -> x.bestSwap(), 12);
    }

    /** "As 10 times the lesser and the other". */
    private static void bestSwapTellsTheLesserFirst() {
        leaves("bestSwap() of 3 and 4", past("places 6;corner 0;party a;party b;party c;party d;party e at 0;"
            + "wants d corner worth 1;"), x -> x.bestSwap(), 34);
        leaves("bestSwap() of 0 and 4", past("places 6;corner 0;party a at 0;party b;party c;party d;party e;"
            + "wants e corner worth 1;"), x -> x.bestSwap(), 4);
        leaves("bestSwap() of 2 and 1", past("places 6;corner 0;party a;party b;party c at 0;party d;"
            + "wants b corner worth 1;"), x -> x.bestSwap(), 12);
    }

    private static void bestTurnOfNone() {
        Twins.refused("bestTurn() of none", Twins::none, x -> x.bestTurn(), 6);
        Twins.refused("bestTurn(), all stand", past("places 3;corner 0;corner 1;corner 2;party a;wants a corner worth 1;"),
            x -> x.bestTurn(), 6);
    }

    /** "Greatest and more than now". */
    private static void bestTurnIsMoreThanNow() {
        Twins.refused("bestTurn(), all as good", past("places 3;corner 0;corner 1;corner 2;party a at 1;"
            + "wants a corner worth 1;"), x -> x.bestTurn(), 6);
        Twins.refused("bestTurn(), less", past("places 3;corner 1;party a at 1;wants a corner worth 1;"),
            x -> x.bestTurn(), 6);
        leaves("bestTurn(), from -1 to 0", past("places 3;corner 1;party a at 1;shuns a corner worth 1;"),
            x -> x.bestTurn(), 1);
    }

    private static void bestTurnIsTheLeastOfSeveral() {
        leaves("bestTurn(), 2 of 2, 3, 4", past("places 6;corner 0;corner 1;corner 2;party a at 4;wants a corner worth 1;"),
            x -> x.bestTurn(), 2);
        leaves("bestTurn(), the greatest is later", past("places 6;corner 1;corner 2;party a at 0;party b at 1;"
            + "wants a corner worth 2;wants b corner worth 1;shuns b beside a worth 9;"), x -> x.bestTurn(), 1);
        leaves("bestTurn(), the greatest is last", past("places 5;corner 0;corner 4;party a at 0;party b at 1;"
            + "shuns a beside b worth 1;wants b corner worth 1;"), x -> x.bestTurn(), 3);
    }

    /** "The n (1 to PLACES less 1)". */
    private static void bestTurnFrom1ToPlacesLess1() {
        for (int places = 3; places <= 6; places++) {
            for (int n = 1; n < places; n++) {
                leaves("bestTurn() by " + n + " of " + places, past("places " + places + ";corner " + n
                    + ";party a at 0;wants a corner worth 1;"), x -> x.bestTurn(), n);
            }
        }
    }

    // ---- Promise 51: "The set of PARTIES that would SIGN by a SWAP (1: one and itself, too; 7: both stand)"

    private static void signsByOfNoSuchParty() {
        for (int p : new int[] {MIN, -1, 3, 4, 5, MAX}) {
            Twins.refused("signsBy(" + p + ",0)", RICH, x -> x.signsBy(p, 0), 1);
            Twins.refused("signsBy(0," + p + ")", RICH, x -> x.signsBy(0, p), 1);
        }
        Twins.refused("signsBy(0,1) of none", Twins::none, x -> x.signsBy(0, 1), 1);
    }

    private static void signsByOfOneAndItself() {
        Twins.refused("signsBy(0,0)", RICH, x -> x.signsBy(0, 0), 1);
        Twins.refused("signsBy(2,2), stands: 1 ahead of 7", RICH, x -> x.signsBy(2, 2), 1);
    }

    private static void signsByOfTwoThatStand() {
        Consumer<StandTable> past = past("places 3;party a;party b at 0;party c;");
        Twins.refused("signsBy(0,2), both stand", past, x -> x.signsBy(0, 2), 7);
        Twins.refused("signsBy(2,0), both stand", past, x -> x.signsBy(2, 0), 7);
    }

    private static void signsByOfOneThatStands() {
        Consumer<StandTable> past = past("places 3;corner 0;party a at 0;party b least 1;party c;wants b corner worth 1;"
            + "shuns a corner worth 1;");
        leaves("signsBy(0,1)", past, x -> x.signsBy(0, 1), 7);
        leaves("signsBy(1,0)", past, x -> x.signsBy(1, 0), 7);
        leaves("signsBy(0,2)", past, x -> x.signsBy(0, 2), 5);
        leaves("told(7) without", past, x -> x.told(7), 4);
    }

    // ---- Promises 52, 53: game, moveOf. In a rich past a sits at 1, b at 2, c stands

    private static void gameOfNoSuchNumber() {
        for (int p : new int[] {MIN, -1, 3, 4, 5, MAX}) {
            Twins.refused("game(" + p + ",0,1)", RICH, x -> x.game(p, 0, 1), 1);
            Twins.refused("game(0," + p + ",1)", RICH, x -> x.game(0, p, 1), 1);
            Twins.refused("moveOf(" + p + ",0,1)", RICH, x -> x.moveOf(p, 0, 1), 1);
            Twins.refused("moveOf(0," + p + ",1)", RICH, x -> x.moveOf(0, p, 1), 1);
        }
        for (int n : new int[] {MIN, -1, 4, 5, MAX}) {
            Twins.refused("game(0,1," + n + ")", RICH, x -> x.game(0, 1, n), 1);
            Twins.refused("moveOf(0,1," + n + ")", RICH, x -> x.moveOf(0, 1, n), 1);
        }
        Twins.refused("game(0,1,0) of none", Twins::none, x -> x.game(0, 1, 0), 1);
        Twins.refused("moveOf(0,1,1) of none", Twins::none, x -> x.moveOf(0, 1, 1), 1);
    }

    private static void gameOfOneAndItself() {
        for (int p = 0; p < 3; p++) {
            int party = p;
            Twins.refused("game(" + p + "," + p + ",1)", RICH, x -> x.game(party, party, 1), 1);
            Twins.refused("moveOf(" + p + "," + p + ",1)", RICH, x -> x.moveOf(party, party, 1), 1);
        }
    }

    /** "7: one of them stands". */
    private static void gameOfOneThatStands() {
        for (int n = 0; n <= 3; n++) {
            int turns = n;
            Twins.refused("game(0,2," + n + "), c stands", RICH, x -> x.game(0, 2, turns), 7);
            Twins.refused("game(2,0," + n + "), c stands", RICH, x -> x.game(2, 0, turns), 7);
            if (n > 0) {
                Twins.refused("moveOf(0,2," + n + "), c stands", RICH, x -> x.moveOf(0, 2, turns), 7);
                Twins.refused("moveOf(2,0," + n + "), c stands", RICH, x -> x.moveOf(2, 0, turns), 7);
            }
        }
        Twins.refused("game(0,2,4), c stands: 1 ahead of 7", RICH, x -> x.game(0, 2, 4), 1);
        Twins.refused("game, both stand", past("places 3;party a;party b;"), x -> x.game(0, 1, 1), 7);
        Twins.refused("moveOf, both stand", past("places 3;party a;party b;"), x -> x.moveOf(0, 1, 1), 7);
    }

    private static void gameOf0Turns() {
        Consumer<StandTable> past = past("places 3;corner 0;party a at 0;party b at 1;wants a corner worth 3;"
            + "wants b beside a worth 4;wants a facing b worth 9;");
        leaves("game(0,1,0)", past, x -> x.game(0, 1, 0), -1);
        leaves("game(1,0,0)", past, x -> x.game(1, 0, 0), 1);
    }

    /** "By turns, the first first": with two turns the other has the last word, with three the first. */
    private static void gameOfUpTo3Turns() {
        Consumer<StandTable> past = past("places 4;corner 0;party a at 2;party b at 1;wants a corner worth 5;"
            + "wants b corner worth 4;");
        int[] due = {0, 5, -4, 5};
        for (int n = 0; n <= 3; n++) {
            int turns = n;
            leaves("game(0,1," + n + ")", past, x -> x.game(0, 1, turns), due[n]);
        }
    }

    /** "Where a number may be below 0, STATUS tells NONE from -1." */
    private static void gameBelow0() {
        String text = "places 3;corner 0;corner 1;corner 2;party a at 0;party b at 1;shuns a corner worth 1;";
        for (int n = 0; n <= 3; n++) {
            int turns = n;
            leaves("game(0,1," + n + "), -1", past(text), x -> x.game(0, 1, turns), -1);
            leaves("game(1,0," + n + ")", past(text), x -> x.game(1, 0, turns), 1);
        }
    }

    /** "One changes places with who sits at another PLACE": a third one, who comes to sit beside the other. */
    private static void gameWithWhoSitsThere() {
        Consumer<StandTable> past = past("places 5;party a at 0;party b at 1;party c at 3;shuns b beside c worth 3;"
            + "shuns b beside a worth 3;");
        leaves("game(0,1,0)", past, x -> x.game(0, 1, 0), 3);
        // a at 2 is beside b as well; a at 3 brings c to 0, beside b
        leaves("game(0,1,1)", past, x -> x.game(0, 1, 1), 3);
        Consumer<StandTable> full = past("places 3;corner 2;party a at 0;party b at 1;party c at 2;wants a corner worth 2;"
            + "wants b beside c worth 1;shuns b corner worth 9;");
        leaves("game(0,1,1), c gives way", full, x -> x.game(0, 1, 1), 1);
        leaves("moveOf(0,1,1), c gives way", full, x -> x.moveOf(0, 1, 1), 2);
        Consumer<StandTable> pushed = past("places 6;party a at 3;party b at 1;party c at 5;wants a facing c worth 2;"
            + "shuns b facing c worth 4;");
        leaves("moveOf(0,1,1), c goes where a was", past("places 6;party a at 4;party b at 1;party c at 0;"
            + "shuns b facing c worth 4;"), x -> x.moveOf(0, 1, 1), 0);
        leaves("game(0,1,1), c is left where it is", pushed, x -> x.game(0, 1, 1), 2);
    }

    /** The other may be who sits there: it is moved, too. */
    private static void gameWithTheOther() {
        Consumer<StandTable> past = past("places 6;corner 3;party a at 0;party b at 3;wants a corner worth 2;"
            + "wants b corner worth 5;");
        leaves("game(0,1,0)", past, x -> x.game(0, 1, 0), -5);
        leaves("game(0,1,1)", past, x -> x.game(0, 1, 1), 2);
        leaves("moveOf(0,1,1)", past, x -> x.moveOf(0, 1, 1), 3);
        leaves("game(0,1,2)", past, x -> x.game(0, 1, 2), -5);
        leaves("game(1,0,1)", past, x -> x.game(1, 0, 1), 5);
        Twins.refused("moveOf(1,0,1), it stays", past, x -> x.moveOf(1, 0, 1), 6);
    }

    /** "1: turns 0, too". */
    private static void moveOf0Turns() {
        Twins.refused("moveOf(0,1,0)", RICH, x -> x.moveOf(0, 1, 0), 1);
        Twins.refused("moveOf(0,2,0), c stands: 1 ahead of 7", RICH, x -> x.moveOf(0, 2, 0), 1);
    }

    /** "Of all that are as good the least PLACE". */
    private static void moveIsTheLeastPlace() {
        Consumer<StandTable> past = past("places 6;corner 2;corner 4;corner 5;party a at 0;party b at 1;"
            + "wants a corner worth 1;");
        leaves("moveOf(0,1,1)", past, x -> x.moveOf(0, 1, 1), 2);
        leaves("moveOf(0,1,3)", past, x -> x.moveOf(0, 1, 3), 1);
        leaves("game(0,1,3)", past, x -> x.game(0, 1, 3), 1);
    }

    /** "Staying comes last": another PLACE that is as good goes ahead. */
    private static void stayingComesLast() {
        for (int home = 0; home < 6; home++) {
            String text = "places 6;party a at " + home + ";party b at " + (home + 1) % 6 + ";";
            for (int n = 1; n <= 3; n++) {
                int turns = n;
                leaves("moveOf(0,1," + n + ") from " + home, past(text), x -> x.moveOf(0, 1, turns), home == 0 ? 1 : 0);
            }
        }
    }

    /** "6: it stays". */
    private static void itStays() {
        Consumer<StandTable> past = past("places 4;corner 2;party a at 2;party b at 0;wants a corner worth 1;");
        Twins.refused("moveOf(0,1,1), it stays", past, x -> x.moveOf(0, 1, 1), 6);
        leaves("game(0,1,1), it stays", past, x -> x.game(0, 1, 1), 1);
        Consumer<StandTable> first = past("places 4;corner 0;party a at 0;party b at 1;wants a corner worth 1;");
        Twins.refused("moveOf(0,1,1), it stays at 0", first, x -> x.moveOf(0, 1, 1), 6);
    }

    private static void gamesLeaveAll() {
        for (int n = 0; n <= 3; n++) {
            int turns = n;
            int[] due = {5, 5, 2, 3};
            leaves("game(0,1," + n + ") of a rich past", RICH, x -> x.game(0, 1, turns), due[n]);
        }
    }
}
