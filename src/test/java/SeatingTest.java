/** Promises 35 to 53: SEATINGS and games. */
public final class SeatingTest {
    private static final String ONE_CORNER = "places 3;corner 0;party a least 1;party b;wants a corner worth 1;";
    private static final String THREE_FOR_ONE =
        "places 4;corner 0;party a least 1;party b least 1;party c least 1;"
        + "wants a corner worth 1;wants b corner worth 1;wants c corner worth 1;";
    private static final String SHY = "places 3;party a;party b;shuns a beside b worth 1;";

    public static void main(String[] args) {
        none();
        nobody();
        counts();
        oneCorner();
        shy();
        threeForOne();
        bestIsTheFirst();
        theLastOfAll();
        classes();
        quarrels();
        fish();
        bestSwap();
        bestTurn();
        signsBy();
        games();
        gamesRefused();
        Check.close("SeatingTest");
    }

    private static void none() {
        StandTable x = Check.table("article a takes 1;", null);
        Check.due(x, "seatings()", x.seatings(), 0, 0);
        Check.due(x, "good()", x.good(), 0, 0);
        Check.due(x, "classes()", x.classes(), 0, 0);
        Check.refused(x, "goodAt(0)", x.goodAt(0), 1);
        Check.refused(x, "best()", x.best(), 6);
        Check.refused(x, "bestAt(0)", x.bestAt(0), 1);
        Check.refused(x, "mostSign()", x.mostSign(), 6);
        Check.refused(x, "quarrel()", x.quarrel(), 6);
        Check.refused(x, "pleased(0)", x.pleased(0), 6);
        Check.refused(x, "pleased(1)", x.pleased(1), 1);
        Check.refused(x, "pleased(-1)", x.pleased(-1), 1);
        Check.refused(x, "mostFor(0)", x.mostFor(0), 1);
        Check.refused(x, "signsIn(0)", x.signsIn(0), 1);
        Check.refused(x, "seatBest()", x.seatBest(), 6);
        Check.due(x, "fish()", x.fish(), 0, 0);
        Check.refused(x, "leastFish()", x.leastFish(), 6);
        Check.refused(x, "bestSwap()", x.bestSwap(), 6);
        Check.refused(x, "bestTurn()", x.bestTurn(), 6);
        Check.refused(x, "signsBy(0,1)", x.signsBy(0, 1), 1);
    }

    private static void nobody() {
        StandTable x = Check.table("places 5;corner 1;", null);
        Check.due(x, "seatings()", x.seatings(), 1, 0);
        Check.due(x, "good()", x.good(), 1, 0);
        Check.due(x, "classes()", x.classes(), 1, 0);
        Check.due(x, "best()", x.best(), 0, 0);
        Check.due(x, "mostSign()", x.mostSign(), 0, 0);
        Check.refused(x, "quarrel()", x.quarrel(), 6);
        Check.due(x, "pleased(0)", x.pleased(0), 1, 0);
        Check.refused(x, "pleased(1)", x.pleased(1), 1);
        Check.due(x, "seatBest()", x.seatBest(), 0, 0);
        Check.due(x, "leastFish()", x.leastFish(), 0, 0);
        Check.refused(x, "bestSwap()", x.bestSwap(), 6);
        Check.refused(x, "bestTurn()", x.bestTurn(), 6);
        Check.refused(x, "goodAt(0)", x.goodAt(0), 1);
    }

    private static void counts() {
        int[][] due = {{3, 6, 6}, {4, 12, 24, 24}, {5, 20, 60, 120, 120}, {6, 30, 120, 360, 720}};
        for (int places = 3; places <= 6; places++) {
            StringBuilder text = new StringBuilder("places " + places + ";");
            for (int p = 0; p < due[places - 3].length && p < 5; p++) {
                text.append("party ").append((char) ('a' + p)).append(';');
                StandTable x = Check.table(text.toString(), null);
                Check.due(x, "seatings() of '" + text + "'", x.seatings(), due[places - 3][p], 0);
                Check.due(x, "good() of '" + text + "'", x.good(), due[places - 3][p], 0);
            }
        }
    }

    private static void oneCorner() {
        StandTable x = Check.table(ONE_CORNER, null);
        Check.due(x, "good()", x.good(), 2, 0);
        Check.due(x, "classes()", x.classes(), 1, 0);
        Check.due(x, "goodAt(0)", x.goodAt(0), 0, 0);
        Check.due(x, "goodAt(1)", x.goodAt(1), 1, 0);
        Check.refused(x, "goodAt(2)", x.goodAt(2), 1);
        Check.refused(x, "goodAt(-1)", x.goodAt(-1), 1);
        Check.due(x, "best()", x.best(), 1, 0);
        Check.refused(x, "bestAt(2)", x.bestAt(2), 1);
        Check.refused(x, "bestAt(-1)", x.bestAt(-1), 1);
        Check.due(x, "mostSign()", x.mostSign(), 2, 0);
        Check.refused(x, "quarrel()", x.quarrel(), 6);
        Check.due(x, "pleased(3)", x.pleased(3), 1, 0);
        Check.refused(x, "pleased(4)", x.pleased(4), 1);
        Check.due(x, "mostFor(0)", x.mostFor(0), 1, 0);
        Check.due(x, "mostFor(1)", x.mostFor(1), 0, 0);
        Check.refused(x, "mostFor(2)", x.mostFor(2), 1);
        Check.refused(x, "mostFor(-1)", x.mostFor(-1), 1);
        Check.due(x, "signsIn(0)", x.signsIn(0), 2, 0);
        Check.due(x, "signsIn(1)", x.signsIn(1), 6, 0);
        Check.refused(x, "signsIn(2)", x.signsIn(2), 1);
        Check.refused(x, "signsIn(-1)", x.signsIn(-1), 1);
        Check.due("all stand as before", x.told(6), 0);
        Check.due(x, "seatBest()", x.seatBest(), 1, 0);
        Check.due("placeOf(0)", x.placeOf(0), 0);
        Check.due("placeOf(1)", x.placeOf(1), 1);
        x.carve(2, true);
        x.carve(0, false);
        Check.due("goodAt(0)", x.goodAt(0), 2);
        Check.due("goodAt(1)", x.goodAt(1), 0);
        x.insist(0, 2);
        Check.due(x, "good()", x.good(), 0, 0);
        Check.due(x, "classes()", x.classes(), 0, 0);
        Check.refused(x, "goodAt(0)", x.goodAt(0), 6);
        Check.refused(x, "goodAt(2)", x.goodAt(2), 1);
    }

    /** Worths below 0: -1 is no NONE. */
    private static void shy() {
        StandTable x = Check.table(SHY, null);
        Check.due(x, "best()", x.best(), -1, 0);
        Check.due(x, "bestAt(0)", x.bestAt(0), 0, 0);
        Check.due(x, "bestAt(1)", x.bestAt(1), 1, 0);
        Check.due(x, "mostFor(0)", x.mostFor(0), -1, 0);
        Check.due(x, "mostFor(1)", x.mostFor(1), 0, 0);
        Check.due(x, "mostSign()", x.mostSign(), 1, 0);
        Check.due(x, "quarrel()", x.quarrel(), 1, 0);
        Check.due(x, "pleased(1)", x.pleased(1), 0, 0);
        Check.due(x, "pleased(2)", x.pleased(2), 1, 0);
        Check.due(x, "pleased(0)", x.pleased(0), 1, 0);
        Check.due(x, "signsIn(0)", x.signsIn(0), 0, 0);
        Check.due(x, "fish(), all stand", x.fish(), 0, 0);
        Check.due(x, "leastFish()", x.leastFish(), 1, 0);
        Check.due(x, "seatBest()", x.seatBest(), -1, 0);
        Check.due(x, "fish(), all sit", x.fish(), 1, 0);
    }

    private static void threeForOne() {
        StandTable x = Check.table(THREE_FOR_ONE, null);
        Check.due(x, "good()", x.good(), 0, 0);
        Check.due(x, "mostSign()", x.mostSign(), 1, 0);
        Check.due(x, "quarrel(), the least of several", x.quarrel(), 3, 0);
        for (int set = 0; set < 8; set++) {
            Check.due(x, "pleased(" + set + ")", x.pleased(set), Integer.bitCount(set) < 2 ? 1 : 0, 0);
        }
        Check.due(x, "signsIn(2)", x.signsIn(2), 6, 0);
        Check.due(x, "fish(), all stand", x.fish(), 3, 0);
        Check.due(x, "leastFish()", x.leastFish(), 2, 0);
        x.carve(2, true);
        Check.due("quarrel() of three", x.quarrel(), 7);
        Check.due("mostSign()", x.mostSign(), 2);
        x.insist(2, 2);
        Check.due("quarrel() of one", x.quarrel(), 4);
        x.insist(2, 0);
        Check.refused(x, "quarrel() of none", x.quarrel(), 6);
        Check.due("good()", x.good(), 4);
        Check.due("goodAt(0)", x.goodAt(0), 0);
        Check.due("goodAt(1)", x.goodAt(1), 2);
        Check.due("goodAt(2)", x.goodAt(2), 1);
    }

    private static void bestIsTheFirst() {
        StandTable x = Check.table("places 4;party a at 3;party b at 2;wants b facing a worth 4;"
            + "wants a beside b worth 3;", null);
        Check.due(x, "best()", x.best(), 4, 0);
        Check.due(x, "bestAt(0)", x.bestAt(0), 0, 0);
        Check.due(x, "bestAt(1)", x.bestAt(1), 2, 0);
        x.value(1, 4);
        Check.due(x, "best()", x.best(), 4, 0);
        Check.due(x, "bestAt(1), the first of several", x.bestAt(1), 1, 0);
        Check.due("placeOf(0) stays", x.placeOf(0), 3);
        Check.due("placeOf(1) stays", x.placeOf(1), 2);
        x.value(1, -4);
        Check.due(x, "seatBest()", x.seatBest(), 4, 0);
        Check.due("placeOf(0)", x.placeOf(0), 0);
        Check.due("placeOf(1)", x.placeOf(1), 2);
        Check.due("allWorth()", x.allWorth(), 4);
    }

    /** What the last SEATING alone has, each call on an object of its own. */
    private static void theLastOfAll() {
        String last = "places 3;corner 2;party a least 1;wants a corner worth 1;";
        Check.due("good()", Check.table(last, null).good(), 1);
        Check.due("classes()", Check.table(last, null).classes(), 1);
        Check.due("goodAt(0)", Check.table(last, null).goodAt(0), 2);
        Check.due("best()", Check.table(last, null).best(), 1);
        Check.due("bestAt(0)", Check.table(last, null).bestAt(0), 2);
        Check.due("mostSign()", Check.table(last, null).mostSign(), 1);
        Check.due("quarrel()", Check.table(last, null).quarrel(), -1);
        Check.due("pleased(1)", Check.table(last, null).pleased(1), 1);
        Check.due("mostFor(0)", Check.table(last, null).mostFor(0), 1);
        Check.due("signsIn(0)", Check.table(last, null).signsIn(0), 1);
        Check.due("leastFish()", Check.table(last, null).leastFish(), 0);
        StandTable x = Check.table(last, null);
        Check.due("seatBest()", x.seatBest(), 1);
        Check.due("placeOf(0)", x.placeOf(0), 2);
        StandTable y = Check.table("places 6;corner 1;corner 4;corner 5;party a least 1;party b least 2;"
            + "party c least 1;party d least 1;party e least 2;wants a corner worth 1;wants b corner worth 1;"
            + "wants b beside a worth 1;wants c beside b worth 1;wants d beside c worth 1;"
            + "wants e beside d worth 1;wants e corner worth 1;", null);
        Check.due("good() of 720", y.good(), 1);
        Check.due("classes() of 720", y.classes(), 1);
        for (int p = 0; p < 5; p++) {
            Check.due("goodAt(" + p + ") of 720", y.goodAt(p), 5 - p);
            Check.due("bestAt(" + p + ") of 720", y.bestAt(p), 5 - p);
        }
        Check.due("best() of 720", y.best(), 7);
        Check.due("mostSign() of 720", y.mostSign(), 5);
    }

    private static void classes() {
        String[] texts = {"places 6;party a;", "places 6;party a;party b;", "places 6;party a;party b;party c;",
            "places 6;party a;party b;party c;party d;party e;", "places 5;party a;party b;",
            "places 4;party a;party b;party c;", "places 3;party a;party b;party c;"};
        int[] due = {1, 3, 10, 60, 2, 3, 1};
        for (int i = 0; i < texts.length; i++) {
            StandTable x = Check.table(texts[i], null);
            Check.due(x, "classes() of '" + texts[i] + "'", x.classes(), due[i], 0);
        }
        // a corner tells SEATINGS apart that are ALIKE: one of them is enough
        StandTable x = Check.table("places 6;corner 5;corner 2;party a least 1;party b least 2;"
            + "wants a corner worth 1;wants b beside a worth 2;", null);
        Check.due("good()", x.good(), 4);
        Check.due("classes()", x.classes(), 1);
        x.insist(1, 0);
        Check.due("good()", x.good(), 10);
        Check.due("classes()", x.classes(), 3);
        x.value(1, -2);
        Check.due("good(), not beside", x.good(), 6);
        Check.due("classes(), not beside", x.classes(), 2);
        x.insist(0, 2);
        Check.due("classes() of none", x.classes(), 0);
        // two GOOD ones, each the other's mirror image and no turning of it
        StandTable y = Check.table("places 6;corner 0;corner 5;party a least 1;party b least 2;party c least 1;"
            + "wants a corner worth 1;wants b beside a worth 2;shuns b corner worth 1;wants c facing a worth 1;",
            null);
        Check.due("good() of two mirrored", y.good(), 2);
        Check.due("classes() of two mirrored", y.classes(), 1);
        y.carve(3, true);
        Check.due("good() of four", y.good(), 4);
        Check.due("classes() of four, ALIKE all", y.classes(), 1);
    }

    private static void quarrels() {
        // two pairs that can't be pleased: {0, 3} is 9, {1, 2} is 6
        StandTable x = Check.table("places 6;party a least 1;party b least 1;party c;party d;"
            + "wants a facing d worth 1;shuns d facing a worth 1;wants b beside c worth 1;shuns c beside b worth 1;",
            null);
        Check.due(x, "quarrel()", x.quarrel(), 6, 0);
        Check.due(x, "pleased(9)", x.pleased(9), 0, 0);
        Check.due(x, "pleased(6)", x.pleased(6), 0, 0);
        x.value(3, 1);
        Check.due(x, "quarrel()", x.quarrel(), 9, 0);
    }

    private static void fish() {
        StandTable x = Check.table("places 4;corner 0;party a least 5 at 0;party b least 4 at 1;party c least 2;"
            + "wants a corner worth 3;wants b beside a worth 9;shuns a beside b worth 6;", null);
        // a: 3 - 6 is 8 below 5; b has more than it needs, which helps nobody; c stands
        Check.due(x, "fish()", x.fish(), 10, 0);
        Check.due(x, "leastFish()", x.leastFish(), 8, 0);
        x.sit(1, 2);
        Check.due(x, "fish()", x.fish(), 8, 0);
    }

    private static void bestSwap() {
        StandTable x = Check.table("places 4;corner 0;party a at 0;party b at 1;party c;party d;"
            + "wants b corner worth 3;wants c corner worth 3;wants d corner worth 2;", null);
        Check.due(x, "bestSwap(), the least of several", x.bestSwap(), 1, 0);
        x.value(1, 4);
        Check.due(x, "bestSwap() with one that stands", x.bestSwap(), 2, 0);
        Check.due("placeOf(0) stays", x.placeOf(0), 0);
        x.value(1, -4);
        x.value(0, -3);
        Check.due(x, "bestSwap(), the last left", x.bestSwap(), 3, 0);
        x.value(2, -1);
        Check.refused(x, "bestSwap() that does not grow", x.bestSwap(), 6);
        x.value(2, 1);
        x.swap(0, 3);
        Check.refused(x, "bestSwap() at the best", x.bestSwap(), 6);
        x.rise(3);
        x.rise(1);
        Check.refused(x, "bestSwap(), all stand", x.bestSwap(), 6);
        x.sit(2, 0);
        Check.due(x, "bestSwap() from below 0", x.bestSwap(), 23, 0);
    }

    private static void bestTurn() {
        StandTable x = Check.table("places 4;corner 0;corner 2;party a at 1;wants a corner worth 2;", null);
        Check.due(x, "bestTurn(), the least of several", x.bestTurn(), 1, 0);
        x.carve(2, false);
        Check.due(x, "bestTurn(), the last", x.bestTurn(), 3, 0);
        Check.due("placeOf(0) stays", x.placeOf(0), 1);
        x.sit(0, 0);
        Check.refused(x, "bestTurn() at the best", x.bestTurn(), 6);
        x.carve(2, true);
        Check.refused(x, "bestTurn() that is as good", x.bestTurn(), 6);
        x.rise(0);
        Check.refused(x, "bestTurn(), all stand", x.bestTurn(), 6);
        StandTable y = Check.table("places 5;corner 1;corner 3;party a at 0;party b at 1;"
            + "wants a corner worth 1;wants b corner worth 3;", null);
        Check.refused(y, "bestTurn(), worth 3 now", y.bestTurn(), 6);
        y.value(0, 4);
        Check.due(y, "bestTurn(), worth 4 by 1, by 3", y.bestTurn(), 1, 0);
        y.value(1, 1);
        y.carve(4, true);
        Check.due(y, "bestTurn(), both at corners", y.bestTurn(), 3, 0);
    }

    private static void signsBy() {
        StandTable x = Check.table("places 3;corner 0;party a at 0;party b least 1;party c least 1;"
            + "wants b corner worth 1;shuns a corner worth 1;", null);
        Check.due(x, "told(7)", x.told(7), 0, 0);
        Check.due(x, "signsBy(0,1)", x.signsBy(0, 1), 3, 0);
        Check.due(x, "signsBy(1,0)", x.signsBy(1, 0), 3, 0);
        Check.due(x, "signsBy(0,2)", x.signsBy(0, 2), 1, 0);
        Check.due("placeOf(0) stays", x.placeOf(0), 0);
        Check.due("told(6) stays", x.told(6), 1);
        Check.refused(x, "signsBy(1,2), both stand", x.signsBy(1, 2), 7);
        Check.refused(x, "signsBy(0,0)", x.signsBy(0, 0), 1);
        Check.refused(x, "signsBy(0,3)", x.signsBy(0, 3), 1);
        Check.refused(x, "signsBy(3,0)", x.signsBy(3, 0), 1);
        Check.refused(x, "signsBy(-1,0)", x.signsBy(-1, 0), 1);
    }

    private static void game(StandTable x, int a, int b, int turns, int due, int move) {
        Check.due(x, "game(" + a + "," + b + "," + turns + ")", x.game(a, b, turns), due, 0);
        if (turns > 0) {
            Check.due(x, "moveOf(" + a + "," + b + "," + turns + ")", x.moveOf(a, b, turns), move,
                move == -1 ? 6 : 0);
        }
    }

    private static void games() {
        StandTable x = Check.table("places 3;corner 0;party a at 1;party b at 2;party c;"
            + "wants a corner worth 5;wants b corner worth 4;", null);
        game(x, 0, 1, 0, 0, -1);
        game(x, 0, 1, 1, 5, 0);
        game(x, 0, 1, 2, -4, 0);
        game(x, 0, 1, 3, 5, 0);
        game(x, 1, 0, 1, 4, 0);
        game(x, 1, 0, 2, -5, 0);
        game(x, 1, 0, 3, 4, 0);
        Check.due("placeOf(0) stays", x.placeOf(0), 1);
        Check.due("placeOf(1) stays", x.placeOf(1), 2);
        x.sit(0, 0);
        game(x, 0, 1, 0, 5, -1);
        game(x, 0, 1, 1, 5, -1);
        game(x, 0, 1, 2, -4, 1);
        x.value(0, -5);
        x.value(1, -4);
        game(x, 0, 1, 0, -5, -1);
        game(x, 0, 1, 1, 4, 2);
        // -1 is no NONE
        x.value(0, -1);
        game(x, 0, 1, 0, -1, -1);
        // no wishes that differ: the least PLACE, and staying comes last
        StandTable y = Check.table("places 4;party a at 0;party b at 2;party c at 1;", null);
        game(y, 0, 1, 1, 0, 1);
        game(y, 1, 0, 1, 0, 0);
        game(y, 2, 0, 3, 0, 0);
        // a third one is moved too, if one takes its PLACE
        StandTable z = Check.table("places 3;corner 1;party a at 0;party b at 2;party c at 1;"
            + "wants a corner worth 5;wants b beside c worth 3;shuns b corner worth 9;", null);
        game(z, 0, 1, 0, -3, -1);
        game(z, 0, 1, 1, 2, 1);
        game(z, 0, 1, 2, 2, 1);
        game(z, 1, 2, 1, 3, 0);
        String apart = "places 3;corner 0;party a at 1;party b at 2;wants a corner worth 5;";
        Check.due("game(0,1,0) on a new object", Check.table(apart, null).game(0, 1, 0), 0);
        Check.due("moveOf(0,1,1) on a new object", Check.table(apart, null).moveOf(0, 1, 1), 0);
        // the other follows wherever it goes, so it stays
        String follow = "places 4;corner 0;party a at 0;party b at 1;wants a corner worth 5;"
            + "wants b facing a worth 9;";
        Check.due("moveOf(0,1,2) on a new object", Check.table(follow, null).moveOf(0, 1, 2), -1);
        Check.due("game(0,1,2) on a new object", Check.table(follow, null).game(0, 1, 2), -4);
        StandTable v = Check.table(follow, null);
        game(v, 0, 1, 0, 5, -1);
        game(v, 0, 1, 1, 5, -1);
        game(v, 0, 1, 2, -4, -1);
        game(v, 0, 1, 3, 0, 1);
        // the other takes its own WORTH back: it plays for the least
        StandTable w = Check.table("places 4;corner 3;party a at 0;party b at 1;wants a facing b worth 2;"
            + "wants b corner worth 3;", null);
        game(w, 0, 1, 1, 2, 3);
        game(w, 0, 1, 2, -1, 1);
    }

    private static void gamesRefused() {
        StandTable x = Check.table("places 3;party a at 1;party b at 2;party c;", null);
        int[][] wrong = {{0, 0, 1}, {0, 3, 1}, {3, 0, 1}, {-1, 0, 1}, {0, -1, 1}, {0, 1, -1}, {0, 1, 4},
            {0, 2, 4}, {2, 2, 1}};
        for (int[] v : wrong) {
            Check.refused(x, "game", x.game(v[0], v[1], v[2]), 1);
            Check.refused(x, "moveOf", x.moveOf(v[0], v[1], v[2]), 1);
        }
        Check.refused(x, "moveOf of 0 turns", x.moveOf(0, 1, 0), 1);
        Check.refused(x, "moveOf of 0 turns, one stands", x.moveOf(0, 2, 0), 1);
        for (int turns = 0; turns <= 3; turns++) {
            Check.refused(x, "game, the other stands", x.game(0, 2, turns), 7);
            Check.refused(x, "game, the first stands", x.game(2, 0, turns), 7);
            if (turns > 0) {
                Check.refused(x, "moveOf, the other stands", x.moveOf(0, 2, turns), 7);
                Check.refused(x, "moveOf, the first stands", x.moveOf(2, 0, turns), 7);
            }
        }
    }
}
