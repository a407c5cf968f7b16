import java.util.function.Consumer;
import java.util.function.ToLongFunction;

/** Each sentence on what is told that names an edge, with a test of its own (promises 13 to 24 and part 2). */
public final class ToldEdgeTest {
    private static final int MIN = Integer.MIN_VALUE;
    private static final int MAX = Integer.MAX_VALUE;
    private static final Consumer<StandTable> RICH = Twins::rich;
    /** All that there can be, each PARTY at the PLACE of its number. */
    private static final String FULL = "places 6;corner 0;corner 1;corner 2;corner 3;corner 4;corner 5;"
        + "party a at 0;party b at 1;party c at 2;party d at 3;party e at 4;" + "wants e corner worth 1;".repeat(20)
        + "article p takes 1;article q takes 1;article r takes 1;article s takes 1;article t takes 1;"
        + "article u takes 1;article v takes 1;article w takes 30 odds 0 p q r s t u v;";

    public static void main(String[] args) {
        theRichPast();
        toldOfNoSuchNumber();
        toldOfNone();
        toldOfAll();
        toldOfSetsInTheMidst();
        whatCouldBeAgreedNow();
        whoOfNoSuchPlace();
        whoOfNobody();
        whoAtEachPlace();
        placeOfNoSuchParty();
        placeOfWhoStands();
        leastOfNoSuchParty();
        wishOfNoSuchNumber();
        wishOfACorner();
        wishBelow0();
        articleOfNoSuchNumber();
        articleWorkedAtAndAgreed();
        oneAndItself();
        twoOfWhichOneIsNoParty();
        twoThatStand();
        theLastPlaceIsNextToTheFirst();
        facingOnBothSides();
        inARingOfThreeAllAreBeside();
        worthOfNoSuchParty();
        worthOfWhoStands();
        worthBesideWhoStands();
        worthIsWantedLessShunned();
        worthBelow0();
        allWorthOfNobody();
        signsOfNoSuchParty();
        signsForJustItsLeast();
        whoStandsSignsForALeastOf0();
        dearestOfNoSuchParty();
        dearestOfNone();
        dearestIsTheFirstOfSeveral();
        dearestAsksNotWhatIsShunned();
        Check.close("ToldEdgeTest");
    }

    private static Consumer<StandTable> past(String committee) {
        return x -> Check.table(x, committee);
    }

    private static void parties(String what, java.util.function.ToLongBiFunction<StandTable, Integer> call) {
        for (int p : new int[] {MIN, -1, 3, 4, 5, 31, 32, MAX}) {
            Twins.refused(what + "(" + p + ") of three", RICH, x -> call.applyAsLong(x, p), 1);
        }
        Twins.refused(what + "(0) of none", Twins::none, x -> call.applyAsLong(x, 0), 1);
        Twins.refused(what + "(0) without PARTIES", past("places 3;article a takes 1;"), x -> call.applyAsLong(x, 0), 1);
    }

    private static void leaves(String what, Consumer<StandTable> past, ToLongFunction<StandTable> call, long due) {
        Twins.leaves(what, past, call, due, 0);
    }

    /** That the past of the twins is as it says. */
    private static void theRichPast() {
        StandTable x = new StandTable();
        Twins.rich(x);
        int[] told = {4, 3, 3, 3, 3, 2, 3, 5, 1, 2};
        for (int what = 0; what <= 9; what++) {
            Check.due(x, "rich: told(" + what + ")", x.told(what), told[what], 0);
        }
        Check.due("rich: placeOf(0)", x.placeOf(0), 1);
        Check.due("rich: placeOf(1)", x.placeOf(1), 2);
        Check.due("rich: article(1,3)", x.article(1, 3), 1);
        Check.due("rich: lived(1)", x.lived(1), 1);
        Check.due("rich: bottom()", x.bottom(), 2);
        Check.due("rich: fault(0)", x.fault(0), 4);
        Check.due("rich: the tape", x.feed(0, 0, 0, 0, 0), 40);
        Check.due(x, "rich: live(0)", x.live(0), 4, 0);
        Check.due(x, "rich: undo()", x.undo(), 0, 0);
        Check.due("undone: told(4)", x.told(4), 0);
        Check.due("undone: placeOf(1)", x.placeOf(1), 1);
    }

    // ---- Promise 13: told

    private static void toldOfNoSuchNumber() {
        for (int what : new int[] {MIN, -1, 10, 11, MAX}) {
            Twins.refused("told(" + what + ")", RICH, x -> x.told(what), 1);
            Twins.refused("told(" + what + ") of none", Twins::none, x -> x.told(what), 1);
        }
    }

    private static void toldOfNone() {
        for (int what = 0; what <= 9; what++) {
            int w = what;
            leaves("told(" + what + ") of none", Twins::none, x -> x.told(w), 0);
            leaves("told(" + what + ") of PLACES alone", past("places 6;"), x -> x.told(w), what == 0 ? 6 : 0);
        }
    }

    private static void toldOfAll() {
        Consumer<StandTable> all = x -> {
            Check.table(x, FULL);
            x.day(37);
        };
        int[] due = {6, 5, 20, 8, 37, 63, 31, 31, 255, 0};
        for (int what = 0; what <= 9; what++) {
            int w = what;
            leaves("told(" + what + ") of all", all, x -> x.told(w), due[what]);
        }
    }

    private static void toldOfSetsInTheMidst() {
        StandTable x = Check.table("places 6;corner 5;party a least 1;party b at 0;party c least 1 at 5;party d;"
            + "party e least 1 at 4;wants e beside c worth 1;", null);
        Check.due(x, "told(5): the last alone", x.told(5), 32, 0);
        Check.due(x, "told(6): who sits", x.told(6), 22, 0);
        Check.due(x, "told(7): who signs", x.told(7), 26, 0);
    }

    private static void whatCouldBeAgreedNow() {
        StandTable x = Check.table(FULL, null);
        Check.due(x, "told(9): all but the last", x.told(9), 127, 0);
        for (int i = 0; i < 6; i++) {
            x.agree(i);
        }
        Check.due(x, "told(9): not what is AGREED", x.told(9), 64, 0);
        x.agree(6);
        Check.due(x, "told(9): the last", x.told(9), 128, 0);
        x.withdraw(0);
        Check.due(x, "told(9): one alone", x.told(9), 1, 0);
    }

    // ---- Promises 14 to 16: who, placeOf, least

    private static void whoOfNoSuchPlace() {
        for (int p : new int[] {MIN, -1, 4, 5, 6, MAX}) {
            Twins.refused("who(" + p + ") of four", RICH, x -> x.who(p), 1);
        }
        Twins.refused("who(0) of none", Twins::none, x -> x.who(0), 1);
    }

    private static void whoOfNobody() {
        Twins.refused("who(0), nobody", RICH, x -> x.who(0), 6);
        Twins.refused("who(3), nobody", RICH, x -> x.who(3), 6);
        Twins.refused("who(0) without PARTIES", past("places 3;"), x -> x.who(0), 6);
    }

    private static void whoAtEachPlace() {
        for (int p = 0; p < 5; p++) {
            int place = p;
            leaves("who(" + p + ")", past(FULL), x -> x.who(place), p);
            leaves("placeOf(" + p + ")", past(FULL), x -> x.placeOf(place), p);
        }
        Twins.refused("who(5), nobody", past(FULL), x -> x.who(5), 6);
    }

    private static void placeOfNoSuchParty() {
        parties("placeOf", (x, p) -> x.placeOf(p));
    }

    private static void placeOfWhoStands() {
        Twins.refused("placeOf(2), stands", RICH, x -> x.placeOf(2), 6);
        leaves("placeOf(0)", RICH, x -> x.placeOf(0), 1);
    }

    private static void leastOfNoSuchParty() {
        parties("least", (x, p) -> x.least(p));
        leaves("least(0)", RICH, x -> x.least(0), 2);
        leaves("least(2) without", RICH, x -> x.least(2), 0);
    }

    // ---- Promises 17, 18: wish, article

    private static void wishOfNoSuchNumber() {
        for (int k : new int[] {MIN, -1, 3, 4, 20, MAX}) {
            for (int what = 0; what <= 3; what++) {
                int w = what;
                Twins.refused("wish(" + k + "," + what + ") of three", RICH, x -> x.wish(k, w), 1);
            }
        }
        for (int what : new int[] {MIN, -1, 4, 5, MAX}) {
            for (int k = 0; k < 3; k++) {
                int wish = k;
                Twins.refused("wish(" + k + "," + what + ")", RICH, x -> x.wish(wish, what), 1);
            }
        }
        Twins.refused("wish(0,0) of none", Twins::none, x -> x.wish(0, 0), 1);
    }

    /** "2: whom (6: CORNER)". */
    private static void wishOfACorner() {
        Twins.refused("wish(0,2) of a CORNER", RICH, x -> x.wish(0, 2), 6);
        leaves("wish(0,1) of a CORNER", RICH, x -> x.wish(0, 1), 2);
        leaves("wish(1,1) BESIDE", RICH, x -> x.wish(1, 1), 0);
        leaves("wish(1,2), PARTY 0", RICH, x -> x.wish(1, 2), 0);
        leaves("wish(2,1) FACING", RICH, x -> x.wish(2, 1), 1);
        leaves("wish(2,2)", RICH, x -> x.wish(2, 2), 1);
        leaves("wish(2,0)", RICH, x -> x.wish(2, 0), 2);
    }

    /** "3: WORTH, below 0 if it is shunned"; "where a number may be below 0, STATUS tells NONE from -1". */
    private static void wishBelow0() {
        leaves("wish(1,3), shunned", RICH, x -> x.wish(1, 3), -2);
        leaves("wish(0,3), wanted", RICH, x -> x.wish(0, 3), 3);
        leaves("wish(0,3), -1", past("places 3;party a;shuns a corner worth 1;"), x -> x.wish(0, 3), -1);
    }

    private static void articleOfNoSuchNumber() {
        for (int i : new int[] {MIN, -1, 3, 4, 8, MAX}) {
            for (int what = 0; what <= 4; what++) {
                int w = what;
                Twins.refused("article(" + i + "," + what + ") of three", RICH, x -> x.article(i, w), 1);
            }
        }
        for (int what : new int[] {MIN, -1, 5, 6, MAX}) {
            for (int i = 0; i < 3; i++) {
                int article = i;
                Twins.refused("article(" + i + "," + what + ")", RICH, x -> x.article(article, what), 1);
            }
        }
        Twins.refused("article(0,0) of none", Twins::none, x -> x.article(0, 0), 1);
    }

    private static void articleWorkedAtAndAgreed() {
        int[][] due = {{2, 16, 0, 2, 1}, {3, 8, 1, 1, 0}, {1, 4, 2, 0, 0}};
        for (int i = 0; i < 3; i++) {
            for (int what = 0; what <= 4; what++) {
                int article = i;
                int w = what;
                leaves("article(" + i + "," + what + ")", RICH, x -> x.article(article, w), due[i][what]);
            }
        }
    }

    // ---- Promises 19, 20: beside, facing

    /** "1: one and itself, too", whether it sits or stands. */
    private static void oneAndItself() {
        for (int p = 0; p < 3; p++) {
            int party = p;
            Twins.refused("beside(" + p + "," + p + ")", RICH, x -> x.beside(party, party), 1);
            Twins.refused("facing(" + p + "," + p + ")", RICH, x -> x.facing(party, party), 1);
        }
    }

    private static void twoOfWhichOneIsNoParty() {
        for (int p : new int[] {MIN, -1, 3, 5, MAX}) {
            Twins.refused("beside(" + p + ",0)", RICH, x -> x.beside(p, 0), 1);
            Twins.refused("beside(0," + p + ")", RICH, x -> x.beside(0, p), 1);
            Twins.refused("facing(" + p + ",0)", RICH, x -> x.facing(p, 0), 1);
            Twins.refused("facing(0," + p + ")", RICH, x -> x.facing(0, p), 1);
        }
        Twins.refused("beside(0,1) of none", Twins::none, x -> x.beside(0, 1), 1);
        Twins.refused("facing(0,1) of none", Twins::none, x -> x.facing(0, 1), 1);
    }

    private static void twoThatStand() {
        leaves("beside, one stands", RICH, x -> x.beside(0, 2), 0);
        leaves("beside, the first stands", RICH, x -> x.beside(2, 0), 0);
        leaves("facing, one stands", RICH, x -> x.facing(2, 1), 0);
        leaves("facing, the other stands", RICH, x -> x.facing(1, 2), 0);
        leaves("beside, both stand", past("places 4;party a;party b;"), x -> x.beside(0, 1), 0);
        leaves("facing, both stand", past("places 4;party a;party b;"), x -> x.facing(0, 1), 0);
        // one that stands is not at -1, which is next to 0, nor two ahead of 1
        for (int place = 0; place < 4; place++) {
            Consumer<StandTable> one = past("places 4;party a at " + place + ";party b;");
            leaves("beside PLACE " + place + ", one stands", one, x -> x.beside(0, 1), 0);
            leaves("beside PLACE " + place + ", the first stands", one, x -> x.beside(1, 0), 0);
            leaves("facing PLACE " + place + ", one stands", one, x -> x.facing(0, 1), 0);
            leaves("facing PLACE " + place + ", the first stands", one, x -> x.facing(1, 0), 0);
        }
    }

    /** "The last one is next to the first". */
    private static void theLastPlaceIsNextToTheFirst() {
        for (int n = 3; n <= 6; n++) {
            String ring = "places " + n + ";party a at 0;party b at " + (n - 1) + ";";
            leaves("beside round '" + ring + "'", past(ring), x -> x.beside(0, 1), 1);
            leaves("beside round back", past(ring), x -> x.beside(1, 0), 1);
            leaves("facing round", past(ring), x -> x.facing(0, 1), 0);
        }
        leaves("beside, one between", past("places 5;party a at 0;party b at 3;"), x -> x.beside(0, 1), 0);
        leaves("beside, one between", past("places 5;party a at 4;party b at 1;"), x -> x.beside(0, 1), 0);
    }

    /** "FACING are two that sit so that as many PLACES are between them on both sides." */
    private static void facingOnBothSides() {
        for (int n = 3; n <= 6; n++) {
            for (int a = 0; a < n; a++) {
                for (int b = 0; b < n; b++) {
                    if (a != b) {
                        int ahead = (b - a + n) % n - 1;
                        int behind = (a - b + n) % n - 1;
                        StandTable x = Check.table("places " + n + ";party a at " + a + ";party b at " + b + ";", null);
                        Check.due(x, "facing " + a + " " + b + " of " + n, x.facing(0, 1), ahead == behind ? 1 : 0, 0);
                        Check.due(x, "beside " + a + " " + b + " of " + n, x.beside(0, 1),
                            ahead == 0 || behind == 0 ? 1 : 0, 0);
                    }
                }
            }
        }
    }

    private static void inARingOfThreeAllAreBeside() {
        Consumer<StandTable> three = past("places 3;party a at 0;party b at 1;party c at 2;");
        for (int a = 0; a < 3; a++) {
            int one = a;
            int other = (a + 1) % 3;
            leaves("beside of three", three, x -> x.beside(one, other), 1);
            leaves("facing of three", three, x -> x.facing(one, other), 0);
        }
    }

    // ---- Promises 21 to 23: worth, allWorth, signs

    private static void worthOfNoSuchParty() {
        parties("worth", (x, p) -> x.worth(p));
    }

    /** "0 if it stands". */
    private static void worthOfWhoStands() {
        Consumer<StandTable> past = past("places 4;corner 0;corner 1;corner 2;corner 3;party a;party b at 0;"
            + "wants a corner worth 9;shuns a beside b worth 3;wants a facing b worth 2;");
        leaves("worth(0), stands", past, x -> x.worth(0), 0);
        leaves("allWorth(), it stands", past, x -> x.allWorth(), 0);
    }

    private static void worthBesideWhoStands() {
        for (int place = 0; place < 4; place++) {
            Consumer<StandTable> past = past("places 4;party a at " + place + ";party b;wants a beside b worth 9;"
                + "shuns a facing b worth 3;wants b beside a worth 9;shuns b facing a worth 3;");
            leaves("worth(0), the other stands", past, x -> x.worth(0), 0);
            leaves("worth(1), stands", past, x -> x.worth(1), 0);
        }
    }

    private static void worthIsWantedLessShunned() {
        Consumer<StandTable> past = past("places 4;corner 0;party a at 0;party b at 1;party c at 2;"
            + "wants a corner worth 9;shuns a beside b worth 4;wants a facing c worth 1;shuns a facing b worth 9;"
            + "wants a beside c worth 9;wants b facing c worth 9;shuns c facing a worth 2;");
        leaves("worth(0)", past, x -> x.worth(0), 6);
        leaves("worth(1)", past, x -> x.worth(1), 0);
        leaves("worth(2)", past, x -> x.worth(2), -2);
        leaves("worth(0), the most of all", past("places 3;corner 0;party a at 0;" + "wants a corner worth 9;".repeat(20)),
            x -> x.worth(0), 180);
        leaves("allWorth()", past, x -> x.allWorth(), 4);
    }

    private static void worthBelow0() {
        Consumer<StandTable> past = past("places 3;corner 0;party a at 0;shuns a corner worth 1;");
        leaves("worth(0), -1", past, x -> x.worth(0), -1);
        leaves("allWorth(), -1", past, x -> x.allWorth(), -1);
        Consumer<StandTable> most = past("places 3;corner 0;party a at 0;" + "shuns a corner worth 9;".repeat(20));
        leaves("worth(0), the least of all", most, x -> x.worth(0), -180);
        leaves("allWorth(), the least of all", most, x -> x.allWorth(), -180);
    }

    private static void allWorthOfNobody() {
        leaves("allWorth() of none", Twins::none, x -> x.allWorth(), 0);
        leaves("allWorth() without PARTIES", past("places 3;corner 0;"), x -> x.allWorth(), 0);
    }

    private static void signsOfNoSuchParty() {
        parties("signs", (x, p) -> x.signs(p));
    }

    /** "It SIGNS, if that is its LEAST or more." */
    private static void signsForJustItsLeast() {
        String text = "places 3;corner 0;party a least L at 0;wants a corner worth 9;wants a corner worth 1;";
        for (int least : new int[] {0, 9, 10}) {
            leaves("signs(0) for " + least, past(text.replace("L", "" + least)), x -> x.signs(0), 1);
        }
        for (int least : new int[] {11, 50}) {
            leaves("signs(0) for " + least, past(text.replace("L", "" + least)), x -> x.signs(0), 0);
        }
        leaves("signs(0) for 0 of -1", past("places 3;corner 0;party a at 0;shuns a corner worth 1;"),
            x -> x.signs(0), 0);
    }

    private static void whoStandsSignsForALeastOf0() {
        leaves("signs(0), stands", past("places 3;party a least 0;"), x -> x.signs(0), 1);
        leaves("signs(0), stands", past("places 3;party a least 1;"), x -> x.signs(0), 0);
    }

    // ---- Promise 24: dearest

    private static void dearestOfNoSuchParty() {
        parties("dearest", (x, p) -> x.dearest(p));
    }

    private static void dearestOfNone() {
        Twins.refused("dearest(0) without WISHES", past("places 3;party a at 0;"), x -> x.dearest(0), 6);
        Twins.refused("dearest(0), has none", past("places 3;party a at 0;wants a corner worth 9;"),
            x -> x.dearest(0), 6);
        Twins.refused("dearest(0), stands", past("places 3;corner 0;party a;wants a corner worth 9;"),
            x -> x.dearest(0), 6);
        Twins.refused("dearest(1), another's", past("places 3;corner 0;party a at 0;party b at 1;"
            + "wants a corner worth 9;wants a beside b worth 9;"), x -> x.dearest(1), 6);
    }

    private static void dearestIsTheFirstOfSeveral() {
        String text = "places 3;corner 0;party a at 0;party b at 1;wants a facing b worth 9;wants b beside a worth 9;"
            + "wants a corner worth 4;wants a beside b worth 5;wants a corner worth 5;wants a corner worth 1;";
        leaves("dearest(0)", past(text), x -> x.dearest(0), 3);
        leaves("dearest(1)", past(text), x -> x.dearest(1), 1);
        leaves("dearest(0), the number 0", past("places 3;corner 0;party a at 0;wants a corner worth 1;"),
            x -> x.dearest(0), 0);
        leaves("dearest(0), the latter", past("places 3;corner 0;party a at 0;wants a corner worth 8;"
            + "wants a corner worth 9;"), x -> x.dearest(0), 1);
    }

    private static void dearestAsksNotWhatIsShunned() {
        String text = "places 3;corner 0;party a at 0;shuns a corner worth 9;";
        Twins.refused("dearest(0), shunned alone", past(text), x -> x.dearest(0), 6);
        leaves("dearest(0), worth 1", past(text + "wants a corner worth 1;"), x -> x.dearest(0), 1);
    }
}
