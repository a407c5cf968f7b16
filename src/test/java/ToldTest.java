/** Promises 13 to 24: what is told of a COMMITTEE. */
public final class ToldTest {
    private static final String RING =
        "places 6;corner 1;corner 4;party a least 3 at 0;party b at 5;party c least 2 at 3;party d least 1;"
        + "wants a beside b worth 2;wants a facing c worth 2;shuns c facing a worth 4;wants b corner worth 7;"
        + "wants a beside c worth 9;shuns b beside d worth 3;wants a facing c worth 2;"
        + "article x takes 3;article y takes 2 odds 8 x;article z takes 1 odds 0 y x;";

    public static void main(String[] args) {
        told();
        whoSitsWhere();
        wishes();
        articles();
        besideAndFacing();
        worths();
        dearest();
        Check.close("ToldTest");
    }

    private static void told() {
        StandTable x = Check.table(RING, null);
        int[] due = {6, 4, 7, 3, 0, 18, 7, 3, 0, 1};
        for (int what = 0; what <= 9; what++) {
            Check.due(x, "told(" + what + ")", x.told(what), due[what], 0);
        }
        Check.refused(x, "told(-1)", x.told(-1), 1);
        Check.refused(x, "told(10)", x.told(10), 1);
        Check.refused(x, "told(MIN)", x.told(Integer.MIN_VALUE), 1);
        x.day(4);
        x.rise(1);
        x.sit(3, 2);
        x.carve(0, true);
        int[] then = {6, 4, 7, 3, 4, 19, 13, 3, 1, 2};
        for (int what = 0; what <= 9; what++) {
            Check.due(x, "then told(" + what + ")", x.told(what), then[what], 0);
        }
        x.agree(1);
        Check.due("told(8)", x.told(8), 3);
        Check.due("told(9)", x.told(9), 4);
    }

    private static void whoSitsWhere() {
        StandTable x = Check.table(RING, null);
        Check.due(x, "who(0)", x.who(0), 0, 0);
        Check.due(x, "who(5)", x.who(5), 1, 0);
        Check.due(x, "who(3)", x.who(3), 2, 0);
        Check.refused(x, "who(4)", x.who(4), 6);
        Check.refused(x, "who(6)", x.who(6), 1);
        Check.refused(x, "who(-1)", x.who(-1), 1);
        Check.due(x, "placeOf(0)", x.placeOf(0), 0, 0);
        Check.due(x, "placeOf(1)", x.placeOf(1), 5, 0);
        Check.refused(x, "placeOf(3)", x.placeOf(3), 6);
        Check.refused(x, "placeOf(4)", x.placeOf(4), 1);
        Check.refused(x, "placeOf(-1)", x.placeOf(-1), 1);
        Check.due(x, "least(0)", x.least(0), 3, 0);
        Check.due(x, "least(1)", x.least(1), 0, 0);
        Check.due(x, "least(3)", x.least(3), 1, 0);
        Check.refused(x, "least(4)", x.least(4), 1);
        Check.refused(x, "least(-1)", x.least(-1), 1);
        StandTable none = new StandTable();
        Check.refused(none, "who(0) of none", none.who(0), 1);
        Check.refused(none, "placeOf(0) of none", none.placeOf(0), 1);
        Check.refused(none, "least(0) of none", none.least(0), 1);
    }

    private static void wishes() {
        StandTable x = Check.table(RING, null);
        int[][] due = {{0, 0, 1, 2}, {0, 1, 2, 2}, {2, 1, 0, -4}, {1, 2, -1, 7}, {0, 0, 2, 9}, {1, 0, 3, -3},
            {0, 1, 2, 2}};
        for (int k = 0; k < due.length; k++) {
            for (int what = 0; what < 4; what++) {
                int status = due[k][what] == -1 ? 6 : 0;
                Check.due(x, "wish(" + k + "," + what + ")", x.wish(k, what), due[k][what], status);
            }
        }
        Check.refused(x, "wish(7,0)", x.wish(7, 0), 1);
        Check.refused(x, "wish(-1,0)", x.wish(-1, 0), 1);
        Check.refused(x, "wish(0,4)", x.wish(0, 4), 1);
        Check.refused(x, "wish(0,-1)", x.wish(0, -1), 1);
        Check.refused(x, "wish(3,4), of a CORNER", x.wish(3, 4), 1);
        x.value(0, -1);
        Check.due(x, "wish(0,3), -1 and no NONE", x.wish(0, 3), -1, 0);
    }

    private static void articles() {
        StandTable x = Check.table(RING, null);
        int[][] due = {{3, 16, 0, 0, 0}, {2, 8, 1, 0, 0}, {1, 0, 3, 0, 0}};
        for (int i = 0; i < due.length; i++) {
            for (int what = 0; what < 5; what++) {
                Check.due(x, "article(" + i + "," + what + ")", x.article(i, what), due[i][what], 0);
            }
        }
        Check.refused(x, "article(3,0)", x.article(3, 0), 1);
        Check.refused(x, "article(-1,0)", x.article(-1, 0), 1);
        Check.refused(x, "article(0,5)", x.article(0, 5), 1);
        Check.refused(x, "article(0,-1)", x.article(0, -1), 1);
        x.day(4);
        Check.due("article(0,3)", x.article(0, 3), 3);
        Check.due("article(0,4)", x.article(0, 4), 1);
        Check.due("article(1,3)", x.article(1, 3), 1);
        Check.due("article(1,4)", x.article(1, 4), 0);
        x.agree(1);
        Check.due("article(1,3) agreed ahead of time", x.article(1, 3), 1);
        Check.due("article(1,4) agreed ahead of time", x.article(1, 4), 1);
    }

    /** Every two PLACES of every ring, by how far they are apart. */
    private static void besideAndFacing() {
        for (int places = 3; places <= 6; places++) {
            StandTable x = Check.table("places " + places + ";party a;party b;", null);
            Check.due(x, "beside, both stand", x.beside(0, 1), 0, 0);
            Check.due(x, "facing, both stand", x.facing(0, 1), 0, 0);
            for (int a = 0; a < places; a++) {
                x.sit(0, a);
                Check.due(x, "beside, one stands", x.beside(0, 1), 0, 0);
                Check.due(x, "facing, one stands", x.facing(1, 0), 0, 0);
                for (int apart = 1; apart < places; apart++) {
                    x.sit(1, (a + apart) % places);
                    int beside = apart == 1 || apart == places - 1 ? 1 : 0;
                    int facing = apart + apart == places ? 1 : 0;
                    Check.due(x, "beside of " + places, x.beside(0, 1), beside, 0);
                    Check.due(x, "beside back", x.beside(1, 0), beside, 0);
                    Check.due(x, "facing of " + places, x.facing(0, 1), facing, 0);
                    Check.due(x, "facing back", x.facing(1, 0), facing, 0);
                }
                x.rise(1);
            }
            Check.refused(x, "beside(0,0)", x.beside(0, 0), 1);
            Check.refused(x, "beside(0,2)", x.beside(0, 2), 1);
            Check.refused(x, "beside(2,0)", x.beside(2, 0), 1);
            Check.refused(x, "beside(-1,0)", x.beside(-1, 0), 1);
            Check.refused(x, "beside(0,-1)", x.beside(0, -1), 1);
            Check.refused(x, "facing(1,1)", x.facing(1, 1), 1);
            Check.refused(x, "facing(0,2)", x.facing(0, 2), 1);
            Check.refused(x, "facing(-1,0)", x.facing(-1, 0), 1);
        }
    }

    private static void worths() {
        StandTable x = Check.table(RING, null);
        int[] worth = {6, 0, -4, 0};
        int[] signs = {1, 1, 0, 0};
        for (int p = 0; p < 4; p++) {
            Check.due(x, "worth(" + p + ")", x.worth(p), worth[p], 0);
            Check.due(x, "signs(" + p + ")", x.signs(p), signs[p], 0);
        }
        Check.due(x, "allWorth()", x.allWorth(), 2, 0);
        Check.refused(x, "worth(4)", x.worth(4), 1);
        Check.refused(x, "worth(-1)", x.worth(-1), 1);
        Check.refused(x, "signs(4)", x.signs(4), 1);
        Check.refused(x, "signs(-1)", x.signs(-1), 1);
        x.swap(1, 3);
        Check.due("worth(1) of one that stands", x.worth(1), 0);
        Check.due("worth(0), b stands", x.worth(0), 4);
        x.sit(1, 4);
        Check.due("worth(1) at a corner, d beside", x.worth(1), 4);
        Check.due("signs(0) for just its least", x.signs(0), 1);
        x.insist(0, 4);
        Check.due("signs(0) for just 4", x.signs(0), 1);
        x.insist(0, 5);
        Check.due("signs(0) for 5", x.signs(0), 0);
        x.rise(0);
        x.rise(2);
        x.value(3, 2);
        Check.due(x, "worth(1), -1 and no NONE", x.worth(1), -1, 0);
        Check.due(x, "allWorth(), -1 and no NONE", x.allWorth(), -1, 0);
        Check.due(x, "signs(1), below 0", x.signs(1), 0, 0);
        x.rise(1);
        x.rise(3);
        Check.due("signs(1), stands", x.signs(1), 1);
        Check.due("signs(3), stands", x.signs(3), 0);
    }

    private static void dearest() {
        StandTable x = Check.table(RING, null);
        Check.due(x, "dearest(0), the first of several", x.dearest(0), 0, 0);
        Check.refused(x, "dearest(1), has none", x.dearest(1), 6);
        Check.refused(x, "dearest(2), shunned alone", x.dearest(2), 6);
        Check.refused(x, "dearest(3), no wishes", x.dearest(3), 6);
        Check.refused(x, "dearest(4)", x.dearest(4), 1);
        Check.refused(x, "dearest(-1)", x.dearest(-1), 1);
        x.value(6, 3);
        Check.due(x, "dearest(0), the last", x.dearest(0), 6, 0);
        x.value(6, -9);
        Check.due(x, "dearest(0), shunned is not asked", x.dearest(0), 0, 0);
        x.rise(1);
        Check.due(x, "dearest(0), the second", x.dearest(0), 1, 0);
        x.rise(0);
        Check.refused(x, "dearest(0), stands", x.dearest(0), 6);
        x.sit(1, 4);
        Check.due(x, "dearest(1), a corner", x.dearest(1), 3, 0);
        x.value(3, 1);
        Check.due(x, "dearest(1), worth 1", x.dearest(1), 3, 0);
    }
}
