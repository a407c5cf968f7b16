/** Promises 1 to 8: a new object, STATUS, the FRACTION, TRAYS. */
public final class TrayTest {
    public static void main(String[] args) {
        newObject();
        statusOfTheLatest();
        fraction();
        trays();
        sorts();
        pours();
        poursRefused();
        Check.close("TrayTest");
    }

    private static void newObject() {
        StandTable x = new StandTable();
        Check.due("NONE", StandTable.NONE, -1);
        Check.due("status()", x.status(), 0);
        Check.due("top()", x.top(), 0);
        Check.due("bottom()", x.bottom(), 1);
        Check.due("fault(0)", x.fault(0), -1);
        Check.due("fault(1)", x.fault(1), -1);
        for (int what = 0; what <= 9; what++) {
            Check.due(x, "told(" + what + ")", x.told(what), 0, 0);
        }
        for (int t = 0; t < 4; t++) {
            Check.refused(x, "read of a MISSING tray", x.read(t, 0), 2);
        }
        Check.refused(x, "live(0)", x.live(0), 6);
        Check.refused(x, "lived(0)", x.lived(0), 6);
        Check.refused(x, "undo()", x.undo(), 6);
        Check.due("feed", x.feed(0, 0, 0, 0, 0), 20);
        Check.due(x, "committee(0)", x.committee(0), 0, 0);
    }

    private static void statusOfTheLatest() {
        StandTable x = new StandTable();
        x.told(10);
        Check.due("status()", x.status(), 1);
        x.status();
        x.top();
        x.bottom();
        x.feed(1, 2, 3, 4, 5);
        x.fault(0);
        x.fault(9);
        Check.due("status() behind calls that have none", x.status(), 1);
        x.told(0);
        Check.due("status() behind a call that could be", x.status(), 0);
    }

    private static void fraction() {
        StandTable x = Check.table("article a takes 3 odds 6;article b takes 2 odds 0;", null);
        Check.due(x, "luck(0)", x.luck(0), true, 0);
        Check.due("top()", x.top(), 3);
        Check.due("bottom()", x.bottom(), 8);
        Check.refused(x, "luck(2)", x.luck(2), 1);
        Check.due("top() stays", x.top(), 3);
        Check.due("bottom() stays", x.bottom(), 8);
        x.luck(1);
        Check.due("top() of 0", x.top(), 0);
        Check.due("bottom() of 0", x.bottom(), 1);
    }

    private static void trays() {
        StandTable x = new StandTable();
        Check.refused(x, "tray(-1,0,0)", x.tray(-1, 0, 0), 1);
        Check.refused(x, "tray(4,0,0)", x.tray(4, 0, 0), 1);
        Check.refused(x, "tray(0,-1,0)", x.tray(0, -1, 0), 1);
        Check.refused(x, "tray(0,4,0)", x.tray(0, 4, 0), 1);
        Check.refused(x, "tray(0,0,-1)", x.tray(0, 0, -1), 1);
        Check.refused(x, "tray(0,0,61)", x.tray(0, 0, 61), 1);
        Check.refused(x, "read(0,0), still MISSING", x.read(0, 0), 2);
        Check.due(x, "tray(0,0,60)", x.tray(0, 0, 60), true, 0);
        Check.due(x, "tray(3,3,0)", x.tray(3, 3, 0), true, 0);
        Check.due(x, "read(0,59)", x.read(0, 59), 0, 0);
        Check.refused(x, "read(0,60)", x.read(0, 60), 3);
        Check.refused(x, "read(0,-1)", x.read(0, -1), 3);
        Check.refused(x, "read(0,MIN)", x.read(0, Integer.MIN_VALUE), 3);
        Check.refused(x, "read(0,MAX)", x.read(0, Integer.MAX_VALUE), 3);
        Check.refused(x, "read(3,0) of none", x.read(3, 0), 3);
        Check.refused(x, "read(-1,0)", x.read(-1, 0), 1);
        Check.refused(x, "read(4,0)", x.read(4, 0), 1);
        Check.refused(x, "read(1,-1): MISSING ahead of the place", x.read(1, -1), 2);
        Check.due(x, "write(0,59,7)", x.write(0, 59, 7), true, 0);
        Check.due(x, "read(0,59)", x.read(0, 59), 7, 0);
        Check.due(x, "read(0,58)", x.read(0, 58), 0, 0);
        Check.refused(x, "write(0,60,1)", x.write(0, 60, 1), 3);
        Check.refused(x, "write(0,-1,1)", x.write(0, -1, 1), 3);
        Check.refused(x, "write(1,0,1)", x.write(1, 0, 1), 2);
        Check.refused(x, "write(4,0,1)", x.write(4, 0, 1), 1);
        Check.refused(x, "write(-1,0,1)", x.write(-1, 0, 1), 1);
        Check.refused(x, "tray(0,4,5) leaves it", x.tray(0, 4, 5), 1);
        Check.due(x, "read(0,59)", x.read(0, 59), 7, 0);
        Check.due(x, "tray(0,1,60) anew", x.tray(0, 1, 60), true, 0);
        Check.due(x, "read(0,59) of a new row", x.read(0, 59), 0, 0);
        x.write(0, 0, 5);
        x.write(0, 2, 5);
        x.tray(0, 1, 2);
        x.tray(0, 1, 3);
        Check.due(x, "read(0,0) of a row made anew", x.read(0, 0), 0, 0);
        Check.due(x, "read(0,2) of a longer row", x.read(0, 2), 0, 0);
    }

    private static void sorts() {
        StandTable x = new StandTable();
        long[] numbers = {127, 128, -1, -129, 255, 256, 32768, -32769, 65537, 2147483648L, -2147483649L,
            4294967298L, Long.MIN_VALUE, Long.MAX_VALUE, 0x1122334455667788L};
        long[][] due = {
            {127, -128, -1, 127, -1, 0, 0, -1, 1, 0, -1, 2, 0, -1, 0xffffffffffffff88L},
            {127, 128, -1, -129, 255, 256, -32768, 32767, 1, 0, -1, 2, 0, -1, 0x7788},
            {127, 128, -1, -129, 255, 256, 32768, -32769, 65537, -2147483648L, 2147483647L, 2, 0, -1,
                0x55667788},
            numbers};
        for (int sort = 0; sort < 4; sort++) {
            x.tray(sort, sort, 1);
            for (int i = 0; i < numbers.length; i++) {
                Check.due(x, "write", x.write(sort, 0, numbers[i]), true, 0);
                Check.due(x, numbers[i] + " by sort " + sort, x.read(sort, 0), due[sort][i], 0);
            }
        }
    }

    private static StandTable filled() {
        StandTable x = new StandTable();
        x.tray(0, 1, 5);
        x.tray(1, 1, 4);
        x.tray(2, 2, 5);
        for (int i = 0; i < 5; i++) {
            x.write(0, i, 10 + i);
            x.write(1, i, 20 + i);
        }
        return x;
    }

    private static void row(StandTable x, String what, int tray, int... due) {
        for (int i = 0; i < due.length; i++) {
            Check.due(what + ", place " + i, x.read(tray, i), due[i]);
        }
    }

    private static void pours() {
        StandTable x = filled();
        Check.due(x, "pour(0,1,1,2,2)", x.pour(0, 1, 1, 2, 2), true, 0);
        row(x, "poured", 1, 20, 21, 11, 12);
        row(x, "poured from", 0, 10, 11, 12, 13, 14);
        Check.due(x, "pour(0,0,0,1,4) on itself", x.pour(0, 0, 0, 1, 4), true, 0);
        row(x, "poured on", 0, 10, 10, 11, 12, 13);
        Check.due(x, "pour(0,2,0,0,3) on itself", x.pour(0, 2, 0, 0, 3), true, 0);
        row(x, "poured back", 0, 11, 12, 13, 12, 13);
        Check.due(x, "pour of none", x.pour(0, 0, 1, 0, 0), true, 0);
        Check.due(x, "pour of none behind the last", x.pour(0, 5, 1, 4, 0), true, 0);
        row(x, "poured none", 1, 20, 21, 11, 12);
        Check.due(x, "pour of all", x.pour(1, 0, 0, 1, 4), true, 0);
        row(x, "poured all", 0, 11, 20, 21, 11, 12);
    }

    private static void poursRefused() {
        StandTable x = filled();
        Check.refused(x, "pour(-1..)", x.pour(-1, 0, 0, 0, 1), 1);
        Check.refused(x, "pour(4..)", x.pour(4, 0, 0, 0, 1), 1);
        Check.refused(x, "pour to -1", x.pour(0, 0, -1, 0, 1), 1);
        Check.refused(x, "pour to 4", x.pour(0, 0, 4, 0, 1), 1);
        Check.refused(x, "pour from below 0", x.pour(0, -1, 1, 0, 1), 1);
        Check.refused(x, "pour at below 0", x.pour(0, 0, 1, -1, 1), 1);
        Check.refused(x, "pour of below 0", x.pour(0, 0, 1, 0, -1), 1);
        Check.refused(x, "pour: 1 ahead of 2", x.pour(3, -1, 1, 0, 1), 1);
        Check.refused(x, "pour from MISSING", x.pour(3, 0, 1, 0, 1), 2);
        Check.refused(x, "pour to MISSING", x.pour(0, 0, 3, 0, 1), 2);
        Check.refused(x, "pour: 2 ahead of 3", x.pour(0, 9, 3, 0, 1), 2);
        Check.refused(x, "pour of unlike sorts", x.pour(0, 0, 2, 0, 1), 8);
        Check.refused(x, "pour: 8 ahead of 3", x.pour(0, 9, 2, 0, 1), 8);
        Check.refused(x, "pour of too many", x.pour(0, 2, 1, 0, 4), 3);
        Check.refused(x, "pour of too many there", x.pour(0, 0, 1, 2, 3), 3);
        Check.refused(x, "pour from a place that is not", x.pour(0, 6, 1, 0, 0), 3);
        Check.refused(x, "pour at a place that is not", x.pour(0, 0, 1, 5, 0), 3);
        Check.refused(x, "pour of MAX", x.pour(0, 1, 1, 1, Integer.MAX_VALUE), 3);
        Check.refused(x, "pour from MAX", x.pour(0, Integer.MAX_VALUE, 1, 0, 1), 3);
        Check.refused(x, "pour at MAX", x.pour(0, 0, 1, Integer.MAX_VALUE, 1), 3);
        row(x, "nothing is poured", 1, 20, 21, 22, 23);
    }
}
