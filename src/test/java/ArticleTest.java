/** Promises 54 to 64: what leans on what, LUCK, and PLACES in a TRAY. */
public final class ArticleTest {
    private static final String FOUR = "article a takes 3;article b takes 2 odds 8 a;"
        + "article c takes 1 odds 4 b;article d takes 4 odds 12;";

    public static void main(String[] args) {
        none();
        leansAndFalls();
        keystone();
        orders();
        soonestAndChain();
        workedAtAndAgreed();
        agreedIn();
        luck();
        weakest();
        copySeats();
        seatBy();
        Check.close("ArticleTest");
    }

    private static void none() {
        StandTable x = Check.table("places 3;party a;", null);
        Check.refused(x, "leans(0)", x.leans(0), 1);
        Check.refused(x, "falls(0)", x.falls(0), 1);
        Check.refused(x, "keystone()", x.keystone(), 6);
        Check.due(x, "orders()", x.orders(), 1, 0);
        Check.refused(x, "soonest(0)", x.soonest(0), 1);
        Check.refused(x, "chain(0)", x.chain(0), 1);
        Check.due(x, "agreedIn(300)", x.agreedIn(300), 0, 0);
        Check.refused(x, "luck(0)", x.luck(0), 1);
        Check.refused(x, "weakest()", x.weakest(), 6);
    }

    private static void leansAndFalls() {
        StandTable x = Check.table(FOUR, null);
        int[] leans = {0, 1, 3, 0};
        int[] falls = {7, 6, 4, 8};
        for (int i = 0; i < 4; i++) {
            Check.due(x, "leans(" + i + ")", x.leans(i), leans[i], 0);
            Check.due(x, "falls(" + i + "), none agreed", x.falls(i), falls[i], 0);
        }
        x.day(99);
        for (int i = 0; i < 4; i++) {
            Check.due(x, "leans(" + i + "), all agreed", x.leans(i), leans[i], 0);
            Check.due(x, "falls(" + i + "), all agreed", x.falls(i), falls[i], 0);
        }
        for (int wrong : new int[] {-1, 4, 8, Integer.MIN_VALUE, Integer.MAX_VALUE}) {
            Check.refused(x, "leans(" + wrong + ")", x.leans(wrong), 1);
            Check.refused(x, "falls(" + wrong + ")", x.falls(wrong), 1);
            Check.refused(x, "soonest(" + wrong + ")", x.soonest(wrong), 1);
            Check.refused(x, "chain(" + wrong + ")", x.chain(wrong), 1);
            Check.refused(x, "luck(" + wrong + ")", x.luck(wrong), 1);
        }
        // h leans on all by three ways, b on nothing
        StandTable y = Check.table("article a takes 1;article b takes 1;article c takes 1 a;article d takes 1 b;"
            + "article e takes 1 c d;article f takes 1;article g takes 1 e;article h takes 1 f g;", null);
        Check.due("leans(7)", y.leans(7), 127);
        Check.due("leans(4)", y.leans(4), 15);
        Check.due("falls(1)", y.falls(1), 218);
        Check.due("falls(5)", y.falls(5), 160);
    }

    private static void keystone() {
        StandTable x = Check.table(FOUR, null);
        Check.due(x, "keystone()", x.keystone(), 0, 0);
        StandTable y = Check.table("article a takes 1;article b takes 1;article c takes 1 b;article d takes 1;"
            + "article e takes 1 d;", null);
        Check.due(y, "keystone(), the first of several", y.keystone(), 1, 0);
        StandTable z = Check.table("article a takes 1;article b takes 1 a;article c takes 1;article d takes 1 c;"
            + "article e takes 1 d;", null);
        Check.due(z, "keystone(), the third", z.keystone(), 2, 0);
        StandTable w = Check.table("article a takes 1;article b takes 1;", null);
        Check.due(w, "keystone(), none leans", w.keystone(), 0, 0);
    }

    private static void orders() {
        StandTable x = Check.table(FOUR, null);
        Check.due(x, "orders()", x.orders(), 4, 0);
        x.agree(0);
        Check.due(x, "orders() behind a", x.orders(), 3, 0);
        x.agree(3);
        Check.due(x, "orders() behind a, d", x.orders(), 1, 0);
        x.day(99);
        Check.due(x, "orders(), all agreed", x.orders(), 1, 0);
        x.withdraw(0);
        Check.due(x, "orders() of a, b, c anew", x.orders(), 1, 0);
        StandTable y = Check.table("article a takes 1;article b takes 1 a;article c takes 1 a;"
            + "article d takes 1 b c;", null);
        Check.due(y, "orders() of a diamond", y.orders(), 2, 0);
        StringBuilder s = new StringBuilder();
        for (char c = 'a'; c <= 'h'; c++) {
            s.append("article ").append(c).append(" takes 1;");
        }
        StandTable z = Check.table(s.toString(), null);
        Check.due(z, "orders() of eight", z.orders(), 40320, 0);
        z.agree(7);
        z.agree(2);
        Check.due(z, "orders() of six", z.orders(), 720, 0);
    }

    private static void soonestAndChain() {
        StandTable x = Check.table(FOUR, null);
        int[] soonest = {3, 5, 6, 10};
        int[] chain = {3, 5, 6, 4};
        for (int i = 0; i < 4; i++) {
            Check.due(x, "soonest(" + i + ")", x.soonest(i), soonest[i], 0);
            Check.due(x, "chain(" + i + ")", x.chain(i), chain[i], 0);
        }
        Check.due("the DAY stays", x.told(4), 0);
        Check.due("worked at stays", x.article(0, 3), 0);
        // of two on which one leans the longer way counts
        StandTable y = Check.table("article a takes 2;article b takes 7;article c takes 4 a;article d takes 3 b c;",
            null);
        Check.due("chain(3)", y.chain(3), 10);
        Check.due("soonest(3)", y.soonest(3), 16);
        StringBuilder s = new StringBuilder();
        for (char c = 'a'; c <= 'h'; c++) {
            s.append("article ").append(c).append(" takes 30 ").append(c == 'a' ? "" : (char) (c - 1)).append(';');
        }
        StandTable z = Check.table(s.toString(), null);
        Check.due("soonest(7) of the most", z.soonest(7), 240);
        Check.due("chain(7) of the most", z.chain(7), 240);
    }

    private static void workedAtAndAgreed() {
        StandTable x = Check.table(FOUR, null);
        x.day(1);
        Check.due("soonest(0)", x.soonest(0), 2);
        Check.due("chain(2)", x.chain(2), 5);
        Check.due("chain(3)", x.chain(3), 4);
        x.agree(3);
        Check.due(x, "soonest(3), agreed", x.soonest(3), 0, 0);
        Check.due(x, "chain(3), agreed", x.chain(3), 0, 0);
        x.agree(0);
        Check.due("soonest(0), agreed", x.soonest(0), 0);
        Check.due("soonest(2)", x.soonest(2), 3);
        Check.due("chain(2)", x.chain(2), 3);
        x.day(1);
        Check.due("chain(1)", x.chain(1), 1);
        x.withdraw(0);
        Check.due("soonest(1), worked at for a day", x.soonest(1), 4);
        Check.due("chain(1), worked at for a day", x.chain(1), 4);
        Check.due("agreedIn(4)", x.agreedIn(4), 11);
        Check.due("agreedIn(3)", x.agreedIn(3), 9);
    }

    private static void agreedIn() {
        StandTable x = Check.table(FOUR, null);
        int[] due = {0, 0, 0, 1, 1, 3, 7, 7, 7, 7, 15, 15};
        for (int days = 0; days < due.length; days++) {
            Check.due(x, "agreedIn(" + days + ")", x.agreedIn(days), due[days], 0);
        }
        Check.due(x, "agreedIn(300)", x.agreedIn(300), 15, 0);
        Check.refused(x, "agreedIn(301)", x.agreedIn(301), 1);
        Check.refused(x, "agreedIn(-1)", x.agreedIn(-1), 1);
        Check.due("told(8) stays", x.told(8), 0);
        Check.due("told(4) stays", x.told(4), 0);
        x.agree(3);
        Check.due(x, "agreedIn(0), d is agreed now", x.agreedIn(0), 8, 0);
        Check.due(x, "agreedIn(6), d is agreed now", x.agreedIn(6), 15, 0);
    }

    private static void luck(StandTable x, int article, long top, long bottom) {
        Check.due(x, "luck(" + article + ")", x.luck(article), true, 0);
        Check.due("top() of luck(" + article + ")", x.top(), top);
        Check.due("bottom() of luck(" + article + ")", x.bottom(), bottom);
    }

    private static void luck() {
        StandTable x = Check.table(FOUR, null);
        luck(x, 0, 1, 1);
        luck(x, 1, 1, 2);
        luck(x, 2, 1, 8);
        luck(x, 3, 3, 4);
        x.day(99);
        luck(x, 2, 1, 8);
        // a is leant on by two ways and counts once
        StandTable y = Check.table("article a takes 1 odds 3;article b takes 1 odds 5 a;article c takes 1 a;"
            + "article d takes 1 odds 7 b c;article e takes 1 odds 0 d;article f takes 1 e;", null);
        luck(y, 3, 105, 4096);
        luck(y, 4, 0, 1);
        luck(y, 5, 0, 1);
        StringBuilder s = new StringBuilder();
        for (char c = 'a'; c <= 'h'; c++) {
            s.append("article ").append(c).append(" takes 1 odds 15 ");
            s.append(c == 'a' ? "" : (char) (c - 1)).append(';');
        }
        StandTable z = Check.table(s.toString(), null);
        luck(z, 7, 2562890625L, 4294967296L);
    }

    private static void weakest() {
        StandTable x = Check.table(FOUR, null);
        Check.due(x, "weakest()", x.weakest(), 2, 0);
        StandTable y = Check.table("article a takes 1;article b takes 1 odds 4;article c takes 1 odds 8;"
            + "article d takes 1 odds 8 c;", null);
        Check.due(y, "weakest(), the first of several", y.weakest(), 1, 0);
        StandTable z = Check.table("article a takes 1 odds 15;article b takes 1 odds 0;article c takes 1 odds 0 b;",
            null);
        Check.due(z, "weakest(), never", z.weakest(), 1, 0);
        StandTable w = Check.table("article a takes 1;", null);
        Check.due(w, "weakest(), sure", w.weakest(), 0, 0);
    }

    // ---- PLACES in a TRAY

    private static void copySeats() {
        StandTable x = Check.table("places 6;party a at 5;party b;party c at 0;", null);
        Check.refused(x, "copySeats(-1)", x.copySeats(-1), 1);
        Check.refused(x, "copySeats(4)", x.copySeats(4), 1);
        Check.refused(x, "copySeats(0), MISSING", x.copySeats(0), 2);
        x.tray(0, 0, 2);
        Check.refused(x, "copySeats(0), too few", x.copySeats(0), 3);
        Check.due("nothing came", x.read(0, 0), 0);
        for (int sort = 0; sort < 4; sort++) {
            x.tray(sort, sort, 4);
            x.write(sort, 3, 77);
            Check.due(x, "copySeats(" + sort + ")", x.copySeats(sort), 3, 0);
            int[] due = {5, -1, 0, 77};
            for (int i = 0; i < 4; i++) {
                Check.due(x, "read", x.read(sort, i), due[i], 0);
            }
        }
        x.tray(1, 0, 3);
        Check.due(x, "copySeats of just as many", x.copySeats(1), 3, 0);
        StandTable none = new StandTable();
        Check.refused(none, "copySeats of none, MISSING", none.copySeats(0), 2);
        none.tray(0, 0, 0);
        Check.due(none, "copySeats of none", none.copySeats(0), 0, 0);
    }

    private static void bring(StandTable x, long... places) {
        for (int i = 0; i < places.length; i++) {
            x.write(0, i, places[i]);
        }
    }

    private static void seats(StandTable x, int... due) {
        for (int p = 0; p < due.length; p++) {
            Check.due("placeOf(" + p + ")", x.placeOf(p), due[p]);
        }
    }

    private static void seatBy() {
        StandTable x = Check.table("places 4;corner 2;party a least 1 at 0;party b;party c least 1;"
            + "wants a corner worth 1;wants c facing a worth 1;", null);
        Check.refused(x, "seatBy(-1)", x.seatBy(-1), 1);
        Check.refused(x, "seatBy(4)", x.seatBy(4), 1);
        Check.refused(x, "seatBy(0), MISSING", x.seatBy(0), 2);
        x.tray(0, 3, 2);
        Check.refused(x, "seatBy(0), too few", x.seatBy(0), 3);
        x.tray(0, 3, 4);
        bring(x, 2, -1, 0, 2);
        Check.due(x, "seatBy(0), a and c sit", x.seatBy(0), 7, 0);
        seats(x, 2, -1, 0);
        bring(x, 0, 1, 3, 0);
        Check.due(x, "seatBy(0), none at a corner", x.seatBy(0), 2, 0);
        seats(x, 0, 1, 3);
        long[][] wrong = {{4, -1, -1}, {-2, -1, -1}, {0, 0, -1}, {1, 2, 1}, {-1, 3, 3}, {0, 1, 4},
            {4294967296L, 1, 2}, {Long.MIN_VALUE, 1, 2}, {0, 1, Long.MAX_VALUE}, {0, 1, 4294967295L}};
        for (long[] v : wrong) {
            bring(x, v);
            Check.refused(x, "seatBy(0)", x.seatBy(0), 5);
            seats(x, 0, 1, 3);
        }
        bring(x, -1, -1, -1, 9);
        Check.due(x, "seatBy(0), all stand", x.seatBy(0), 2, 0);
        seats(x, -1, -1, -1);
        x.tray(1, 0, 3);
        Check.refused(x, "seatBy(1), all at 0", x.seatBy(1), 5);
        StandTable none = new StandTable();
        none.tray(2, 1, 0);
        Check.due(none, "seatBy of none", none.seatBy(2), 0, 0);
    }
}
