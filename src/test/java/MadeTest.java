import java.util.ArrayList;
import java.util.Arrays;
import java.util.HashMap;
import java.util.HashSet;
import java.util.List;
import java.util.Map;
import java.util.Random;
import java.util.Set;

/**
 * What is told of SEATINGS, SWAPS, TURNS, GAMES and DAYS to come, compared with the same really made: each SEATING is
 * sat by seatBy() on an object of its own, each DAY lived, each ARTICLE agreed and withdrawn.
 */
public final class MadeTest {
    private static final int RUNS = 90;

    private final Random random;
    /** A COMMITTEE that was there ahead of this one, of which nothing may be left. */
    private final String before;
    private final String text;
    private final int places;
    private final int parties;
    private final int articles;
    private StandTable x;
    private final List<Integer> seats = new ArrayList<>();
    private final Map<List<Integer>, int[]> seen = new HashMap<>();

    public static void main(String[] args) {
        String before = "";
        for (int run = 0; run < RUNS; run++) {
            MadeTest test = new MadeTest(run, before);
            test.seatings();
            test.anew();
            test.sets();
            test.anew();
            test.ofEachParty();
            test.anew();
            test.swaps();
            test.turns();
            test.anew();
            test.games();
            test.anew();
            test.dearest();
            test.leansAndFalls();
            test.anew();
            test.days();
            test.chains();
            test.ordersAndLuck();
            test.anew();
            test.bestIsSat();
            before = test.text;
        }
        Check.close("MadeTest");
    }

    private MadeTest(int seed, String before) {
        random = new Random(seed);
        this.before = before;
        places = 3 + seed % 4;
        parties = seed % 11 == 0 ? 0 : 1 + random.nextInt(Math.min(5, places));
        articles = random.nextInt(7);
        text = draw();
        x = fresh();
        for (int p = 0; p < parties; p++) {
            seats.add(x.placeOf(p));
        }
        due("told(1)", x.told(1), parties);
    }

    // ---- COMMITTEES by draws

    private String draw() {
        StringBuilder s = new StringBuilder("places " + places + ";");
        for (int i = random.nextInt(3); i > 0; i--) {
            s.append("corner ").append(random.nextInt(places)).append(';');
        }
        for (int p = 0; p < parties; p++) {
            s.append("party ").append((char) ('a' + p));
            s.append(random.nextInt(3) == 0 ? "" : " least " + random.nextInt(random.nextInt(4) == 0 ? 51 : 9));
            s.append(random.nextInt(5) == 0 ? ";" : " at " + p + ";");
        }
        int wishes = parties == 0 || random.nextInt(9) == 0 ? 0 : random.nextInt(random.nextInt(3) == 0 ? 21 : 9);
        for (int k = 0; k < wishes; k++) {
            s.append(wish());
        }
        for (int i = 0; i < articles; i++) {
            s.append("article ").append((char) ('q' + i)).append(" takes ").append(1 + random.nextInt(30));
            s.append(random.nextBoolean() ? " odds " + random.nextInt(17) : "");
            for (int k = 0; k < i; k++) {
                s.append(random.nextInt(3) == 0 ? " " + (char) ('q' + k) : "");
            }
            s.append(';');
        }
        return s.toString();
    }

    private String wish() {
        int whose = random.nextInt(parties);
        int whom = random.nextInt(parties);
        String what = whom == whose ? "corner" : (random.nextBoolean() ? "beside " : "facing ") + (char) ('a' + whom);
        return (random.nextInt(3) == 0 ? "shuns " : "wants ") + (char) ('a' + whose) + " " + what + " worth "
            + (1 + random.nextInt(9)) + ";";
    }

    /** The old COMMITTEE is read twice, as an object may read texts by turns into two rows. */
    private StandTable fresh() {
        StandTable y = new StandTable();
        Check.committee(y, before);
        Check.committee(y, before);
        Check.committee(y, text);
        return y;
    }

    /** An object stands for 512 calls; what was asked of the old one has changed nothing that it tells. */
    private void anew() {
        due("nobody has moved", Arrays.equals(sat(x), sat(fresh())) ? 1 : 0, 1);
        due("nothing was agreed", x.told(8), 0);
        due("no DAY went by", x.told(4), 0);
        x = fresh();
    }

    private void due(String what, long got, long want) {
        Check.due("'" + text + "': " + what, got, want);
    }

    private void due(String what, long got, long want, int status) {
        due(what, got, want);
        due("status() of " + what, x.status(), status);
    }

    private void dueOrNone(String what, long got, long want) {
        due(what, got, want, want == -1 ? 6 : 0);
    }

    // ---- what a SEATING, or one in which some stand, is worth: ALL, FISH, the set that SIGNS, then WORTH to each

    private int[] worths(List<Integer> row) {
        return seen.computeIfAbsent(row, r -> {
            StandTable y = fresh();
            int[] told = new int[3 + parties];
            y.tray(0, 0, parties);
            for (int p = 0; p < parties; p++) {
                y.write(0, p, r.get(p));
            }
            told[2] = y.seatBy(0);
            told[0] = y.allWorth();
            told[1] = y.fish();
            int sum = 0;
            int lack = 0;
            for (int p = 0; p < parties; p++) {
                told[3 + p] = y.worth(p);
                sum += y.worth(p);
                lack += Math.max(0, y.least(p) - y.worth(p));
                due("signs(" + p + ") in " + r, y.signs(p), told[2] >> p & 1);
                due("signs(" + p + ") in " + r, y.signs(p), y.worth(p) >= y.least(p) ? 1 : 0);
            }
            due("allWorth() in " + r, told[0], sum);
            due("fish() in " + r, told[1], lack);
            return told;
        });
    }

    private void grow(List<Integer> row, List<List<Integer>> all) {
        if (row.size() == parties) {
            all.add(new ArrayList<>(row));
            return;
        }
        for (int place = 0; place < places; place++) {
            if (!row.contains(place)) {
                row.add(place);
                grow(row, all);
                row.remove(row.size() - 1);
            }
        }
    }

    private List<List<Integer>> all() {
        List<List<Integer>> all = new ArrayList<>();
        grow(new ArrayList<>(), all);
        return all;
    }

    private int everybody() {
        return (1 << parties) - 1;
    }

    private void seatings() {
        int good = 0;
        int most = -10000;
        int fish = 10000;
        int signs = 0;
        List<Integer> firstGood = null;
        List<Integer> best = null;
        Set<Set<List<Integer>>> classes = new HashSet<>();
        for (List<Integer> row : all()) {
            int[] w = worths(row);
            if (w[2] == everybody()) {
                good++;
                firstGood = firstGood == null ? row : firstGood;
                classes.add(alike(row));
            }
            best = w[0] > most ? row : best;
            most = Math.max(most, w[0]);
            fish = Math.min(fish, w[1]);
            signs = Math.max(signs, Integer.bitCount(w[2]));
        }
        due("seatings()", x.seatings(), all().size(), 0);
        due("good()", x.good(), good, 0);
        due("classes()", x.classes(), classes.size(), 0);
        due("best()", x.best(), most, 0);
        due("leastFish()", x.leastFish(), fish, 0);
        due("mostSign()", x.mostSign(), signs, 0);
        for (int p = 0; p < parties; p++) {
            dueOrNone("goodAt(" + p + ")", x.goodAt(p), firstGood == null ? -1 : firstGood.get(p));
            due("bestAt(" + p + ")", x.bestAt(p), best.get(p), 0);
        }
    }

    /** All that are the same turned round, or mirrored, or both. */
    private Set<List<Integer>> alike(List<Integer> row) {
        Set<List<Integer>> found = new HashSet<>();
        for (int n = 0; n < places; n++) {
            List<Integer> turned = new ArrayList<>();
            List<Integer> mirrored = new ArrayList<>();
            for (int place : row) {
                turned.add((place + n) % places);
                mirrored.add(places - 1 - (place + n) % places);
            }
            found.add(turned);
            found.add(mirrored);
        }
        return found;
    }

    private void sets() {
        int quarrel = -1;
        for (int set = 0; set <= everybody(); set++) {
            int pleased = 0;
            for (List<Integer> row : all()) {
                pleased |= (worths(row)[2] & set) == set ? 1 : 0;
            }
            due("pleased(" + set + ")", x.pleased(set), pleased, 0);
            boolean fewer = quarrel == -1 || Integer.bitCount(set) < Integer.bitCount(quarrel);
            quarrel = pleased == 0 && fewer ? set : quarrel;
        }
        dueOrNone("quarrel()", x.quarrel(), quarrel);
    }

    private void ofEachParty() {
        for (int p = 0; p < parties; p++) {
            int most = -10000;
            int signed = 0;
            for (List<Integer> row : all()) {
                most = Math.max(most, worths(row)[3 + p]);
                signed += worths(row)[2] >> p & 1;
            }
            due("mostFor(" + p + ")", x.mostFor(p), most, 0);
            due("signsIn(" + p + ")", x.signsIn(p), signed, 0);
        }
    }

    // ---- SWAPS and TURNS

    private List<Integer> swapped(List<Integer> row, int a, int b) {
        List<Integer> other = new ArrayList<>(row);
        other.set(a, row.get(b));
        other.set(b, row.get(a));
        return other;
    }

    private void swaps() {
        int most = worths(seats)[0];
        int best = -1;
        for (int a = 0; a < parties; a++) {
            for (int b = 0; b < parties; b++) {
                if (a == b) {
                    continue;
                }
                boolean can = seats.get(a) >= 0 || seats.get(b) >= 0;
                int[] w = worths(swapped(seats, a, b));
                due("signsBy(" + a + "," + b + ")", x.signsBy(a, b), can ? w[2] : -1, can ? 0 : 7);
                if (a < b && can && w[0] > most) {
                    most = w[0];
                    best = 10 * a + b;
                }
                StandTable y = fresh();
                due("swap(" + a + "," + b + ")", y.swap(a, b) ? 1 : 0, can ? 1 : 0);
                due("allWorth() behind swap(" + a + "," + b + ")", y.allWorth(), can ? w[0] : worths(seats)[0]);
            }
        }
        dueOrNone("bestSwap()", x.bestSwap(), best);
    }

    private void turns() {
        int most = worths(seats)[0];
        int best = -1;
        for (int n = 1; n < places; n++) {
            List<Integer> turned = new ArrayList<>();
            for (int place : seats) {
                turned.add(place < 0 ? -1 : (place + n) % places);
            }
            if (worths(turned)[0] > most) {
                most = worths(turned)[0];
                best = n;
            }
            StandTable y = fresh();
            y.turn(n);
            due("allWorth() behind turn(" + n + ")", y.allWorth(), worths(turned)[0]);
        }
        dueOrNone("bestTurn()", x.bestTurn(), best);
    }

    // ---- games

    private List<Integer> moved(List<Integer> row, int who, int place) {
        int there = row.indexOf(place);
        List<Integer> other = new ArrayList<>(row);
        if (there >= 0) {
            other.set(there, row.get(who));
        }
        other.set(who, place);
        return other;
    }

    private int lead(List<Integer> row, int first, int second, int turns, boolean firstMoves) {
        if (turns == 0) {
            return worths(row)[3 + first] - worths(row)[3 + second];
        }
        List<Integer> leads = new ArrayList<>();
        for (int place = 0; place < places; place++) {
            leads.add(lead(moved(row, firstMoves ? first : second, place), first, second, turns - 1, !firstMoves));
        }
        leads.sort(null);
        return firstMoves ? leads.get(leads.size() - 1) : leads.get(0);
    }

    private int firstMove(int first, int second, int turns) {
        int most = lead(seats, first, second, turns, true);
        for (int place = 0; place < places; place++) {
            boolean stays = place == seats.get(first);
            if (!stays && lead(moved(seats, first, place), first, second, turns - 1, false) == most) {
                return place;
            }
        }
        return -1;
    }

    private void games() {
        for (int a = 0; a < parties; a++) {
            for (int b = 0; b < parties; b++) {
                for (int turns = 0; turns <= 3 && a != b; turns++) {
                    String of = "(" + a + "," + b + "," + turns + ")";
                    boolean sit = seats.get(a) >= 0 && seats.get(b) >= 0;
                    due("game" + of, x.game(a, b, turns), sit ? lead(seats, a, b, turns, true) : -1, sit ? 0 : 7);
                    if (turns > 0 && sit) {
                        dueOrNone("moveOf" + of, x.moveOf(a, b, turns), firstMove(a, b, turns));
                    }
                }
            }
        }
    }

    // ---- dearest: the WISH whose WORTH the PARTY would miss, if it were shunned by 1 in place of it

    private void dearest() {
        for (int p = 0; p < parties; p++) {
            int found = -1;
            int most = 0;
            for (int k = 0; k < x.told(2); k++) {
                StandTable y = fresh();
                int ahead = y.worth(p);
                int worth = y.wish(k, 3);
                y.value(k, worth == 9 ? 8 : worth + 1 == 0 ? 1 : worth + 1);
                if (y.worth(p) != ahead && worth > most) {
                    most = worth;
                    found = k;
                }
            }
            dueOrNone("dearest(" + p + ")", x.dearest(p), found);
        }
    }

    // ---- ARTICLES

    /** All AGREED, each behind what it leans on. */
    private StandTable agreed() {
        StandTable y = fresh();
        for (int i = 0; i < articles; i++) {
            due("agree(" + i + ")", y.agree(i), i + 1);
        }
        return y;
    }

    private void leansAndFalls() {
        int keystone = -1;
        int most = 0;
        for (int i = 0; i < articles; i++) {
            StandTable y = agreed();
            int fell = y.withdraw(i);
            int left = y.told(8);
            due("falls(" + i + ")", x.falls(i), (1 << articles) - 1 - left, 0);
            due("how many fell with " + i, fell, Integer.bitCount(x.falls(i)));
            if (fell > most) {
                most = fell;
                keystone = i;
            }
            int leans = 0;
            for (int k = 0; k < articles; k++) {
                StandTable z = agreed();
                z.withdraw(k);
                leans |= k != i && (z.told(8) >> i & 1) == 0 ? 1 << k : 0;
            }
            due("leans(" + i + ")", x.leans(i), leans, 0);
        }
        dueOrNone("keystone()", x.keystone(), keystone);
    }

    /** An object on which some DAYS went by and an ARTICLE was agreed on, the same each time. */
    private StandTable begun() {
        StandTable y = fresh();
        y.day(1 + text.length() % 40);
        y.agree(text.length() % 7);
        y.day(1 + text.length() % 3);
        return y;
    }

    private void days() {
        for (StandTable y : new StandTable[] {fresh(), begun()}) {
            boolean begun = y.told(4) > 0;
            StandTable z = begun ? begun() : fresh();
            for (int day = 0; day <= 200; day++) {
                due("agreedIn(" + day + ")", y.agreedIn(day), z.told(8));
                z.day(1);
            }
            for (int i = 0; i < articles; i++) {
                StandTable s = begun ? begun() : fresh();
                int days = 0;
                while (s.article(i, 4) == 0 && days < 300) {
                    s.day(1);
                    days++;
                }
                due("soonest(" + i + ")", y.soonest(i), days);
            }
        }
    }

    /** CHAIN by days on which all that can be are WORKED at. */
    private void chains() {
        for (StandTable y : new StandTable[] {fresh(), begun()}) {
            int[] left = new int[articles];
            int[] due = new int[articles];
            for (int i = 0; i < articles; i++) {
                left[i] = y.article(i, 4) == 1 ? 0 : y.article(i, 0) - y.article(i, 3);
            }
            for (int day = 1; day <= 240; day++) {
                int done = 0;
                for (int i = 0; i < articles; i++) {
                    done |= left[i] == 0 ? 1 << i : 0;
                }
                for (int i = 0; i < articles; i++) {
                    if (left[i] > 0 && (y.article(i, 2) & ~done) == 0) {
                        left[i]--;
                        due[i] = left[i] == 0 ? day : 0;
                    }
                }
            }
            for (int i = 0; i < articles; i++) {
                due("chain(" + i + ")", y.chain(i), due[i]);
            }
        }
    }

    private int orders(StandTable y, int agreed, Map<Integer, Integer> known) {
        if (agreed == (1 << articles) - 1) {
            return 1;
        }
        if (!known.containsKey(agreed)) {
            int sum = 0;
            for (int i = 0; i < articles; i++) {
                boolean can = (agreed >> i & 1) == 0 && (y.article(i, 2) & ~agreed) == 0;
                sum += can ? orders(y, agreed | 1 << i, known) : 0;
            }
            known.put(agreed, sum);
        }
        return known.get(agreed);
    }

    private void ordersAndLuck() {
        due("orders()", fresh().orders(), orders(fresh(), 0, new HashMap<>()));
        due("orders() begun", begun().orders(), orders(begun(), begun().told(8), new HashMap<>()));
        due("orders() of none left", agreed().orders(), 1);
        int weakest = -1;
        double least = 2;
        for (int i = 0; i < articles; i++) {
            double luck = 1;
            for (int k = 0; k <= i; k++) {
                luck *= k == i || (x.leans(i) >> k & 1) == 1 ? x.article(k, 1) / 16.0 : 1;
            }
            due("luck(" + i + ")", x.luck(i) ? 1 : 0, 1, 0);
            due("luck(" + i + ") by 2^32", x.top() * ((1L << 32) / x.bottom()), (long) (luck * (1L << 32)));
            due("top() is odd, or bottom() 1", x.top() % 2 != 0 || x.bottom() == 1 ? 1 : 0, 1);
            if (luck < least) {
                least = luck;
                weakest = i;
            }
        }
        dueOrNone("weakest()", x.weakest(), weakest);
    }

    private void bestIsSat() {
        int[] best = new int[parties];
        for (int p = 0; p < parties; p++) {
            best[p] = x.bestAt(p);
        }
        int most = x.best();
        due("seatBest()", x.seatBest(), most, 0);
        due("all sit as in BEST", Arrays.equals(sat(x), best) ? 1 : 0, 1);
        due("allWorth() then", x.allWorth(), most);
    }

    private int[] sat(StandTable y) {
        int[] row = new int[parties];
        for (int p = 0; p < parties; p++) {
            row[p] = y.placeOf(p);
        }
        return row;
    }
}
