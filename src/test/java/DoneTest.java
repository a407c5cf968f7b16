/** Promises 25 to 34: what is done. */
public final class DoneTest {
    private static final String FOUR = "places 4;corner 2;party a at 0;party b at 1;party c;party d;";

    public static void main(String[] args) {
        sit();
        rise();
        swap();
        turn();
        day();
        lastDays();
        agree();
        withdraw();
        insist();
        value();
        carve();
        Check.close("DoneTest");
    }

    private static void seats(StandTable x, String what, int... due) {
        for (int p = 0; p < due.length; p++) {
            Check.due(what + ": placeOf(" + p + ")", x.placeOf(p), due[p]);
        }
    }

    private static void sit() {
        StandTable x = Check.table(FOUR, null);
        Check.due(x, "sit(2,3), it stood", x.sit(2, 3), -1, 0);
        Check.due(x, "sit(0,2)", x.sit(0, 2), 0, 0);
        Check.due(x, "sit(0,2), where itself sits", x.sit(0, 2), 2, 0);
        Check.refused(x, "sit(3,1)", x.sit(3, 1), 7);
        Check.refused(x, "sit(0,3)", x.sit(0, 3), 7);
        seats(x, "sit", 2, 1, 3, -1);
        Check.refused(x, "sit(4,0)", x.sit(4, 0), 1);
        Check.refused(x, "sit(-1,0)", x.sit(-1, 0), 1);
        Check.refused(x, "sit(0,4)", x.sit(0, 4), 1);
        Check.refused(x, "sit(0,-1)", x.sit(0, -1), 1);
        seats(x, "sit", 2, 1, 3, -1);
        Check.due(x, "sit(3,0), left by a", x.sit(3, 0), -1, 0);
    }

    private static void rise() {
        StandTable x = Check.table(FOUR, null);
        Check.due(x, "rise(0)", x.rise(0), 0, 0);
        Check.due(x, "rise(1)", x.rise(1), 1, 0);
        Check.refused(x, "rise(0), stands", x.rise(0), 7);
        Check.refused(x, "rise(2), stands", x.rise(2), 7);
        Check.refused(x, "rise(4)", x.rise(4), 1);
        Check.refused(x, "rise(-1)", x.rise(-1), 1);
        Check.due("told(6)", x.told(6), 0);
    }

    private static void swap() {
        StandTable x = Check.table(FOUR, null);
        Check.due(x, "swap(0,1)", x.swap(0, 1), true, 0);
        seats(x, "swap", 1, 0, -1, -1);
        Check.due(x, "swap(0,2)", x.swap(0, 2), true, 0);
        seats(x, "swap with one that stands", -1, 0, 1, -1);
        Check.due(x, "swap(3,1)", x.swap(3, 1), true, 0);
        seats(x, "swap of one that stands", -1, -1, 1, 0);
        Check.refused(x, "swap(0,1), both stand", x.swap(0, 1), 7);
        Check.refused(x, "swap(2,2)", x.swap(2, 2), 1);
        Check.refused(x, "swap(0,0), stands", x.swap(0, 0), 1);
        Check.refused(x, "swap(0,4)", x.swap(0, 4), 1);
        Check.refused(x, "swap(4,0)", x.swap(4, 0), 1);
        Check.refused(x, "swap(-1,0)", x.swap(-1, 0), 1);
        Check.refused(x, "swap(0,-1)", x.swap(0, -1), 1);
        seats(x, "swaps refused", -1, -1, 1, 0);
    }

    private static void turn() {
        StandTable x = Check.table(FOUR, null);
        Check.due(x, "turn(1)", x.turn(1), 2, 0);
        seats(x, "turn by 1", 1, 2, -1, -1);
        Check.due(x, "turn(3)", x.turn(3), 2, 0);
        seats(x, "turn round", 0, 1, -1, -1);
        Check.due(x, "turn(99)", x.turn(99), 2, 0);
        seats(x, "turn by 99", 3, 0, -1, -1);
        Check.due(x, "turn(0)", x.turn(0), 2, 0);
        seats(x, "turn by 0", 3, 0, -1, -1);
        Check.refused(x, "turn(-1)", x.turn(-1), 1);
        Check.refused(x, "turn(100)", x.turn(100), 1);
        seats(x, "turns refused", 3, 0, -1, -1);
        x.rise(0);
        Check.due(x, "turn of one", x.turn(0), 1, 0);
        StandTable none = new StandTable();
        Check.due(none, "turn(3) of none", none.turn(3), 0, 0);
        Check.refused(none, "turn(100) of none", none.turn(100), 1);
    }

    private static void day() {
        StandTable x = Check.table("article x takes 2;article y takes 1 x;article z takes 3;", null);
        Check.refused(x, "day(0)", x.day(0), 1);
        Check.refused(x, "day(100)", x.day(100), 1);
        Check.refused(x, "day(-1)", x.day(-1), 1);
        Check.due(x, "day(1)", x.day(1), 0, 0);
        Check.due("worked at x", x.article(0, 3), 1);
        Check.due("worked at z", x.article(2, 3), 0);
        Check.due(x, "day(3)", x.day(3), 2, 0);
        Check.due("told(8)", x.told(8), 3);
        Check.due("worked at x", x.article(0, 3), 2);
        Check.due("worked at z", x.article(2, 3), 1);
        Check.due(x, "day(99)", x.day(99), 1, 0);
        Check.due("told(4)", x.told(4), 103);
        Check.due("worked at z", x.article(2, 3), 3);
        Check.due(x, "day(1), nothing to do", x.day(1), 0, 0);
        // what was agreed by hand is not worked at; what falls is begun anew
        StandTable y = Check.table("article x takes 2;article y takes 2 x;article z takes 3;", null);
        y.day(1);
        y.agree(0);
        Check.due(y, "day(1) behind agree", y.day(1), 0, 0);
        Check.due("worked at x", y.article(0, 3), 1);
        Check.due("worked at y", y.article(1, 3), 1);
        y.withdraw(0);
        Check.due("worked at x, withdrawn", y.article(0, 3), 0);
        Check.due("worked at y, which did not fall", y.article(1, 3), 1);
        Check.due(y, "day(3)", y.day(3), 2, 0);
        Check.due("told(8)", y.told(8), 3);
    }

    private static void lastDays() {
        StandTable x = Check.table("article x takes 30;", null);
        for (int i = 0; i < 101; i++) {
            x.day(99);
        }
        Check.due("told(4)", x.told(4), 9999);
        Check.refused(x, "day(1) beyond", x.day(1), 4);
        Check.refused(x, "day(0) beyond", x.day(0), 1);
        Check.due("told(4) stays", x.told(4), 9999);
        StandTable y = Check.table("article x takes 30;", null);
        for (int i = 0; i < 100; i++) {
            y.day(99);
        }
        y.withdraw(0);
        y.day(98);
        y.withdraw(0);
        Check.due("told(4)", y.told(4), 9998);
        Check.refused(y, "day(2) beyond, as a whole", y.day(2), 4);
        Check.due("worked at", y.article(0, 3), 0);
        Check.due(y, "soonest beyond", y.soonest(0), 30, 0);
        Check.due(y, "agreedIn beyond", y.agreedIn(30), 1, 0);
        Check.due(y, "agreedIn beyond", y.agreedIn(29), 0, 0);
        Check.due(y, "day(1), the last", y.day(1), 0, 0);
        Check.due("worked at", y.article(0, 3), 1);
    }

    private static void agree() {
        StandTable x = Check.table("article x takes 2;article y takes 1 x;article z takes 3 x y;", null);
        Check.refused(x, "agree(1), leans", x.agree(1), 7);
        Check.refused(x, "agree(2), leans", x.agree(2), 7);
        Check.due(x, "agree(0)", x.agree(0), 1, 0);
        Check.refused(x, "agree(0) again", x.agree(0), 7);
        Check.refused(x, "agree(2), leans on one that is not", x.agree(2), 7);
        Check.due(x, "agree(1)", x.agree(1), 2, 0);
        Check.due(x, "agree(2)", x.agree(2), 3, 0);
        Check.refused(x, "agree(3)", x.agree(3), 1);
        Check.refused(x, "agree(-1)", x.agree(-1), 1);
        Check.due("told(8)", x.told(8), 7);
    }

    private static void withdraw() {
        StandTable x = Check.table("article x takes 2;article y takes 1 x;article z takes 3 y;article v takes 1;"
            + "article w takes 1 v z;", null);
        Check.refused(x, "withdraw(0), not agreed", x.withdraw(0), 7);
        x.day(99);
        Check.due("told(8)", x.told(8), 31);
        Check.due(x, "withdraw(2)", x.withdraw(2), 2, 0);
        Check.due("told(8)", x.told(8), 11);
        Check.due("worked at z", x.article(2, 3), 0);
        Check.due("worked at w", x.article(4, 3), 0);
        Check.due("worked at v", x.article(3, 3), 1);
        Check.refused(x, "withdraw(2) again", x.withdraw(2), 7);
        Check.due(x, "withdraw(0): x, y", x.withdraw(0), 2, 0);
        Check.due("told(8)", x.told(8), 8);
        Check.refused(x, "withdraw(5)", x.withdraw(5), 1);
        Check.refused(x, "withdraw(-1)", x.withdraw(-1), 1);
        x.day(99);
        Check.due(x, "withdraw(0): all but v", x.withdraw(0), 4, 0);
        Check.due("told(8)", x.told(8), 8);
    }

    private static void insist() {
        StandTable x = Check.table(FOUR, null);
        Check.due(x, "insist(0,50)", x.insist(0, 50), true, 0);
        Check.due("least(0)", x.least(0), 50);
        Check.due("signs(0)", x.signs(0), 0);
        Check.refused(x, "insist(0,51)", x.insist(0, 51), 1);
        Check.refused(x, "insist(0,-1)", x.insist(0, -1), 1);
        Check.refused(x, "insist(4,0)", x.insist(4, 0), 1);
        Check.refused(x, "insist(-1,0)", x.insist(-1, 0), 1);
        Check.due("least(0) stays", x.least(0), 50);
        Check.due(x, "insist(0,0)", x.insist(0, 0), true, 0);
        Check.due("least(0)", x.least(0), 0);
        Check.due("signs(0)", x.signs(0), 1);
    }

    private static void value() {
        StandTable x = Check.table(FOUR + "wants a beside b worth 3;shuns b corner worth 2;", null);
        Check.due(x, "value(0,-9)", x.value(0, -9), true, 0);
        Check.due("worth(0)", x.worth(0), -9);
        Check.due(x, "value(0,9)", x.value(0, 9), true, 0);
        Check.due("worth(0)", x.worth(0), 9);
        Check.due(x, "value(1,1)", x.value(1, 1), true, 0);
        Check.due("wish(1,3)", x.wish(1, 3), 1);
        Check.refused(x, "value(0,0)", x.value(0, 0), 1);
        Check.refused(x, "value(0,10)", x.value(0, 10), 1);
        Check.refused(x, "value(0,-10)", x.value(0, -10), 1);
        Check.refused(x, "value(2,1)", x.value(2, 1), 1);
        Check.refused(x, "value(-1,1)", x.value(-1, 1), 1);
        Check.due("wish(0,3) stays", x.wish(0, 3), 9);
    }

    private static void carve() {
        StandTable x = Check.table(FOUR + "wants a corner worth 3;", null);
        Check.refused(x, "carve(2,true)", x.carve(2, true), 7);
        Check.refused(x, "carve(0,false)", x.carve(0, false), 7);
        Check.due(x, "carve(0,true)", x.carve(0, true), true, 0);
        Check.due("told(5)", x.told(5), 5);
        Check.due("worth(0)", x.worth(0), 3);
        Check.due(x, "carve(2,false)", x.carve(2, false), true, 0);
        Check.due("told(5)", x.told(5), 1);
        Check.refused(x, "carve(4,true)", x.carve(4, true), 1);
        Check.refused(x, "carve(-1,true)", x.carve(-1, true), 1);
        Check.refused(x, "carve(32,true)", x.carve(32, true), 1);
        Check.due("told(5) stays", x.told(5), 1);
        StandTable none = new StandTable();
        Check.refused(none, "carve(0,true) of none", none.carve(0, true), 1);
    }
}
