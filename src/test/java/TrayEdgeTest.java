/** Each sentence on TRAYS, STATUS and the FRACTION that names an edge, with a test of its own (promises 1 to 8). */
public final class TrayEdgeTest {
    private static final int MIN = Integer.MIN_VALUE;
    private static final int MAX = Integer.MAX_VALUE;

    public static void main(String[] args) {
        aNewObjectHasNobody();
        aNewObjectHasNothingElse();
        aNewObjectHasStatus0();
        statusIsOfTheLatest();
        someCallsHaveNoStatus();
        thereAreTrays0To3();
        theyAreMissingAtFirst();
        theyHave0To60Numbers();
        thereAreSorts0To3();
        aTrayIsMadeAnewOf0s();
        oneIsMadeAlone();
        numbersAreCut();
        noneIsToldFromBelow0();
        aPlaceThatTheTrayHasNot();
        thePlaceBehindTheLastOne();
        writeAsksInOrder();
        pourAsksInOrder();
        pourOfBelow0();
        pourOfJustEnough();
        pourOfOneTooMany();
        pourOfNone();
        pourRunsOver();
        pourOfUnlikeSorts();
        pourOnItself();
        pourLeavesWhatItTakes();
        pourMovesNumbersAsTheyWere();
        Check.close("TrayEdgeTest");
    }

    // ---- Promise 1: a COMMITTEE of no PLACES, PARTIES, ARTICLES; DAY 0; no SESSIONS, MARKS; ..

    private static void aNewObjectHasNobody() {
        StandTable x = new StandTable();
        for (int what = 0; what <= 9; what++) {
            Check.due(x, "new: told(" + what + ")", x.told(what), 0, 0);
        }
        Check.refused(x, "new: who(0)", x.who(0), 1);
        Check.refused(x, "new: placeOf(0)", x.placeOf(0), 1);
        Check.refused(x, "new: wish(0,0)", x.wish(0, 0), 1);
        Check.refused(x, "new: article(0,0)", x.article(0, 0), 1);
    }

    private static void aNewObjectHasNothingElse() {
        StandTable x = new StandTable();
        Check.refused(x, "new: live(0)", x.live(0), 6);
        Check.refused(x, "new: mean(0,1)", x.mean(0, 1), 6);
        Check.refused(x, "new: lived(0)", x.lived(0), 6);
        Check.refused(x, "new: undo()", x.undo(), 6);
        Check.refused(x, "new: committee(1)", x.committee(1), 1);
        Check.due("new: the tape is empty", x.feed(0, 0, 0, 0, 0), 20);
        Check.due("new: top()", x.top(), 0);
        Check.due("new: bottom()", x.bottom(), 1);
        Check.due("new: fault(0)", x.fault(0), -1);
        Check.due("new: fault(1)", x.fault(1), -1);
    }

    private static void aNewObjectHasStatus0() {
        Check.due("new: status()", new StandTable().status(), 0);
    }

    // ---- Promise 2: STATUS of the latest call that has one

    private static void statusIsOfTheLatest() {
        StandTable x = new StandTable();
        x.read(0, 0);
        Check.due("status() behind a call", x.status(), 2);
        Check.due("status() again", x.status(), 2);
        x.told(0);
        Check.due("status() behind the next", x.status(), 0);
        x.undo();
        Check.due("status() behind one more", x.status(), 6);
    }

    /** "status(), top(), bottom(), feed(), fault() have none." */
    private static void someCallsHaveNoStatus() {
        StandTable x = new StandTable();
        for (int i = 0; i < 45; i++) {
            x.read(0, 0);
            Check.due("feed", x.feed(0, 0, 0, 0, 0), 20 * i + 20);
            Check.due("status() behind feed", x.status(), 2);
        }
        x.read(4, 0);
        Check.due("feed of too many", x.feed(0, 0, 0, 0, 0), -1);
        Check.due("status() behind feed of too many", x.status(), 1);
        x.told(0);
        x.feed(0, 0, 0, 0, 0);
        Check.due("status() behind feed of too many", x.status(), 0);
        for (int what : new int[] {-1, 0, 1, 2, MIN, MAX}) {
            Check.due("fault(" + what + ")", x.fault(what), -1);
            Check.due("status() behind fault", x.status(), 0);
        }
        x.undo();
        x.top();
        x.bottom();
        x.fault(0);
        Check.due("status() behind top, bottom, fault", x.status(), 6);
    }

    // ---- Promise 5: tray

    private static void thereAreTrays0To3() {
        for (int t : new int[] {MIN, -1, 4, MAX}) {
            Twins.denied("tray(" + t + ",0,1)", Twins::rich, x -> x.tray(t, 0, 1), 1);
            Twins.denied("write(" + t + ",0,1)", Twins::rich, x -> x.write(t, 0, 1), 1);
            Twins.refused("read(" + t + ",0)", Twins::rich, x -> x.read(t, 0), 1);
            Twins.denied("pour(" + t + ",0,0,0,0)", Twins::rich, x -> x.pour(t, 0, 0, 0, 0), 1);
            Twins.denied("pour(0,0," + t + ",0,0)", Twins::rich, x -> x.pour(0, 0, t, 0, 0), 1);
        }
        StandTable x = new StandTable();
        for (int t = 0; t < 4; t++) {
            Check.due(x, "tray(" + t + ",0,1)", x.tray(t, 0, 1), true, 0);
            Check.due(x, "write(" + t + ",0,9)", x.write(t, 0, 9), true, 0);
            Check.due(x, "read(" + t + ",0)", x.read(t, 0), 9, 0);
        }
    }

    private static void theyAreMissingAtFirst() {
        for (int t = 0; t < 4; t++) {
            int tray = t;
            Twins.denied("write MISSING " + t, Twins::none, x -> x.write(tray, 0, 1), 2);
            Twins.refused("read MISSING " + t, Twins::none, x -> x.read(tray, 0), 2);
            Twins.denied("pour MISSING " + t, Twins::none, x -> x.pour(tray, 0, tray, 0, 0), 2);
        }
        // a row of no numbers is not MISSING
        StandTable x = new StandTable();
        x.tray(1, 0, 0);
        Check.refused(x, "read of a row of none", x.read(1, 0), 3);
        Check.due(x, "pour of a row of none", x.pour(1, 0, 1, 0, 0), true, 0);
    }

    private static void theyHave0To60Numbers() {
        for (int many : new int[] {MIN, -1, 61, MAX}) {
            Twins.denied("tray(0,0," + many + ")", Twins::rich, x -> x.tray(0, 0, many), 1);
        }
        StandTable x = new StandTable();
        Check.due(x, "tray(0,3,60)", x.tray(0, 3, 60), true, 0);
        for (int p = 0; p < 60; p++) {
            Check.due(x, "read(0," + p + ")", x.read(0, p), 0, 0);
            Check.due(x, "write(0," + p + ",..)", x.write(0, p, 100 + p), true, 0);
        }
        for (int p = 0; p < 60; p++) {
            Check.due(x, "read(0," + p + ")", x.read(0, p), 100 + p, 0);
        }
        Check.due(x, "tray(0,3,0)", x.tray(0, 3, 0), true, 0);
        Check.refused(x, "read(0,0) of none", x.read(0, 0), 3);
    }

    private static void thereAreSorts0To3() {
        for (int sort : new int[] {MIN, -1, 4, MAX}) {
            Twins.denied("tray(0," + sort + ",1)", Twins::rich, x -> x.tray(0, sort, 1), 1);
        }
    }

    private static void aTrayIsMadeAnewOf0s() {
        StandTable x = new StandTable();
        x.tray(2, 2, 60);
        for (int p = 0; p < 60; p++) {
            x.write(2, p, -1);
        }
        x.tray(2, 2, 60);
        for (int p = 0; p < 60; p++) {
            Check.due(x, "read(2," + p + ") anew", x.read(2, p), 0, 0);
        }
    }

    private static void oneIsMadeAlone() {
        StandTable x = new StandTable();
        x.tray(0, 0, 1);
        x.write(0, 0, 5);
        x.tray(1, 3, 2);
        Check.due(x, "read(0,0), another was made", x.read(0, 0), 5, 0);
        Check.refused(x, "read(0,1), another was made", x.read(0, 1), 3);
        Check.refused(x, "read(2,0), another was made", x.read(2, 0), 2);
    }

    // ---- Promises 6, 7: write, read

    /** "Numbers of 8 bits (sort 0), 16 (1), 32 (2) or 64 (3)": the last that fits, and the first that does not. */
    private static void numbersAreCut() {
        StandTable x = new StandTable();
        int[] bits = {8, 16, 32, 64};
        for (int sort = 0; sort < 4; sort++) {
            x.tray(0, sort, 1);
            long most = Long.MAX_VALUE >> 64 - bits[sort];
            long[] numbers = {most, -most - 1, most + 1, -most - 2, -1, 2 * most + 1, 2 * most + 2, 0};
            long[] due = {most, -most - 1, -most - 1, most, -1, -1, 0, 0};
            for (int i = 0; i < numbers.length; i++) {
                Check.due(x, "write", x.write(0, 0, numbers[i]), true, 0);
                Check.due(x, numbers[i] + " cut to sort " + sort, x.read(0, 0), due[i], 0);
            }
        }
    }

    private static void noneIsToldFromBelow0() {
        StandTable x = new StandTable();
        x.tray(3, 0, 1);
        x.write(3, 0, 255);
        Check.due(x, "read of -1", x.read(3, 0), -1, 0);
        Check.due(x, "read of NONE", x.read(3, 1), -1, 3);
    }

    private static void aPlaceThatTheTrayHasNot() {
        for (int p : new int[] {MIN, -1, 4, 5, 60, MAX}) {
            Twins.denied("write(0," + p + ",1)", Twins::rich, x -> x.write(0, p, 1), 3);
            Twins.refused("read(0," + p + ")", Twins::rich, x -> x.read(0, p), 3);
        }
    }

    private static void thePlaceBehindTheLastOne() {
        StandTable x = new StandTable();
        for (int many = 1; many <= 60; many++) {
            x.tray(0, 0, many);
            Check.due(x, "the last of " + many, x.write(0, many - 1, 1), true, 0);
            Check.refused(x, "behind the last of " + many, x.write(0, many, 1), 3);
            Check.due(x, "the last of " + many, x.read(0, many - 1), 1, 0);
            Check.refused(x, "behind the last of " + many, x.read(0, many), 3);
        }
    }

    private static void writeAsksInOrder() {
        Twins.denied("write: 1 ahead of 3", Twins::rich, x -> x.write(4, 99, 1), 1);
        Twins.denied("write: 2 ahead of 3", Twins::rich, x -> x.write(3, 99, 1), 2);
        Twins.refused("read: 1 ahead of 3", Twins::rich, x -> x.read(-1, -1), 1);
        Twins.refused("read: 2 ahead of 3", Twins::rich, x -> x.read(3, -1), 2);
    }

    // ---- Promise 8: pour. In a rich past TRAY 0 has 4 numbers, 1 has 5, 2 has 2; 0 and 2 are of a sort; 3 is MISSING

    /** "1: below 0, too; 2; 8; 3; asked in this order". */
    private static void pourAsksInOrder() {
        Twins.denied("pour: 1 ahead of 2", Twins::rich, x -> x.pour(3, -1, 1, 9, 9), 1);
        Twins.denied("pour: 1 ahead of 2", Twins::rich, x -> x.pour(0, 9, 3, 9, -1), 1);
        Twins.denied("pour: 1 ahead of 8", Twins::rich, x -> x.pour(0, 9, 1, -1, 9), 1);
        Twins.denied("pour: 2 ahead of 8, 3", Twins::rich, x -> x.pour(1, 9, 3, 9, 9), 2);
        Twins.denied("pour: 2 ahead of 8, 3", Twins::rich, x -> x.pour(3, 9, 1, 9, 9), 2);
        Twins.denied("pour: 8 ahead of 3", Twins::rich, x -> x.pour(0, 9, 1, 9, 9), 8);
        Twins.denied("pour: 3", Twins::rich, x -> x.pour(0, 9, 2, 9, 9), 3);
    }

    private static void pourOfBelow0() {
        for (int low : new int[] {-1, MIN}) {
            Twins.denied("pour from " + low, Twins::rich, x -> x.pour(0, low, 2, 0, 1), 1);
            Twins.denied("pour at " + low, Twins::rich, x -> x.pour(0, 0, 2, low, 1), 1);
            Twins.denied("pour of " + low, Twins::rich, x -> x.pour(0, 0, 2, 0, low), 1);
        }
    }

    private static void pourOfJustEnough() {
        Twins.comesTo("pour(0,2,2,0,2)", Twins::rich, x -> x.pour(0, 2, 2, 0, 2) ? 1 : 0, 1, x -> {
            x.write(2, 0, 2);
            x.write(2, 1, 0);
        });
        Twins.comesTo("pour(0,0,2,1,1)", Twins::rich, x -> x.pour(0, 0, 2, 1, 1) ? 1 : 0, 1,
            x -> x.write(2, 1, 3));
        Twins.comesTo("pour(2,0,0,2,2)", Twins::rich, x -> x.pour(2, 0, 0, 2, 2) ? 1 : 0, 1,
            x -> x.write(0, 2, 0));
    }

    private static void pourOfOneTooMany() {
        Twins.denied("pour of one that the first has not", Twins::rich, x -> x.pour(2, 1, 0, 0, 2), 3);
        Twins.denied("pour of one that the other has not", Twins::rich, x -> x.pour(0, 0, 2, 1, 2), 3);
        Twins.denied("pour of one that the other has not", Twins::rich, x -> x.pour(0, 0, 2, 0, 3), 3);
        Twins.denied("pour on itself of one too many", Twins::rich, x -> x.pour(0, 0, 0, 1, 4), 3);
        Twins.denied("pour from itself of one too many", Twins::rich, x -> x.pour(0, 1, 0, 0, 4), 3);
    }

    private static void pourOfNone() {
        Twins.leaves("pour(0,0,2,0,0)", Twins::rich, x -> x.pour(0, 0, 2, 0, 0) ? 1 : 0, 1, 0);
        Twins.leaves("pour(0,4,2,2,0)", Twins::rich, x -> x.pour(0, 4, 2, 2, 0) ? 1 : 0, 1, 0);
        Twins.denied("pour(0,5,2,0,0)", Twins::rich, x -> x.pour(0, 5, 2, 0, 0), 3);
        Twins.denied("pour(0,0,2,3,0)", Twins::rich, x -> x.pour(0, 0, 2, 3, 0), 3);
    }

    private static void pourRunsOver() {
        Twins.denied("pour of MAX", Twins::rich, x -> x.pour(0, 1, 2, 1, MAX), 3);
        Twins.denied("pour from MAX", Twins::rich, x -> x.pour(0, MAX, 2, 0, 1), 3);
        Twins.denied("pour at MAX", Twins::rich, x -> x.pour(0, 0, 2, MAX, 1), 3);
        Twins.denied("pour of all MAX", Twins::rich, x -> x.pour(0, MAX, 2, MAX, MAX), 3);
    }

    private static void pourOfUnlikeSorts() {
        StandTable x = new StandTable();
        for (int t = 0; t < 4; t++) {
            x.tray(t, t, 1);
        }
        for (int from = 0; from < 4; from++) {
            for (int to = 0; to < 4; to++) {
                Check.due(x, "pour of sort " + from + " to sort " + to, x.pour(from, 0, to, 0, 1), from == to,
                    from == to ? 0 : 8);
            }
        }
    }

    private static StandTable row(int... numbers) {
        StandTable x = new StandTable();
        x.tray(0, 0, numbers.length);
        for (int i = 0; i < numbers.length; i++) {
            x.write(0, i, numbers[i]);
        }
        return x;
    }

    private static void has(StandTable x, String what, int tray, int... due) {
        for (int i = 0; i < due.length; i++) {
            Check.due(x, what + ": read(" + tray + "," + i + ")", x.read(tray, i), due[i], 0);
        }
        Check.refused(x, what + ": read(" + tray + "," + due.length + ")", x.read(tray, due.length), 3);
    }

    /** "Come to another one's (or its own) place on, as they were". */
    private static void pourOnItself() {
        StandTable x = row(1, 2, 3, 4);
        Check.due(x, "pour on", x.pour(0, 0, 0, 1, 3), true, 0);
        has(x, "pour on", 0, 1, 1, 2, 3);
        StandTable y = row(1, 2, 3, 4);
        Check.due(y, "pour back", y.pour(0, 1, 0, 0, 3), true, 0);
        has(y, "pour back", 0, 2, 3, 4, 4);
        StandTable z = row(1, 2, 3, 4);
        Check.due(z, "pour where they are", z.pour(0, 0, 0, 0, 4), true, 0);
        has(z, "pour where they are", 0, 1, 2, 3, 4);
    }

    private static void pourLeavesWhatItTakes() {
        StandTable x = row(1, 2, 3);
        x.tray(3, 0, 5);
        x.write(3, 0, 9);
        x.write(3, 4, 8);
        Check.due(x, "pour", x.pour(0, 0, 3, 1, 3), true, 0);
        has(x, "poured from", 0, 1, 2, 3);
        has(x, "poured to", 3, 9, 1, 2, 3, 8);
    }

    private static void pourMovesNumbersAsTheyWere() {
        StandTable x = new StandTable();
        x.tray(0, 3, 2);
        x.tray(1, 3, 2);
        x.write(0, 0, Long.MIN_VALUE);
        x.write(0, 1, Long.MAX_VALUE);
        x.pour(0, 0, 1, 0, 2);
        Check.due(x, "poured the least", x.read(1, 0), Long.MIN_VALUE, 0);
        Check.due(x, "poured the greatest", x.read(1, 1), Long.MAX_VALUE, 0);
    }
}
