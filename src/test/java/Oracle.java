import java.math.BigInteger;
import java.util.ArrayDeque;
import java.util.ArrayList;
import java.util.Arrays;
import java.util.Collections;
import java.util.Deque;
import java.util.HashSet;
import java.util.List;
import java.util.Set;
import java.util.TreeSet;

/**
 * The document once more, written as slowly and in as different a way as it goes, for FuzzTest to
 * compare with. It shares no code with StandTable.
 */
final class Oracle {
    private static final Set<String> RESERVED = new HashSet<>(Arrays.asList(
        "places", "corner", "party", "least", "at", "wants", "shuns", "beside", "facing", "worth",
        "article", "takes", "odds", "sit", "rise", "swap", "turn", "day", "agree", "withdraw", "any",
        "when", "signs", "agreed", "all", "loop", "end", "stop"));

    static final class Refused extends RuntimeException {
        final int status;

        Refused(int status) {
            super(null, null, false, false);
            this.status = status;
        }
    }

    private static final class Fault extends RuntimeException {
        final int kind;
        final int place;

        Fault(int kind, int place) {
            super(null, null, false, false);
            this.kind = kind;
            this.place = place;
        }
    }

    private static final class Over extends RuntimeException {
        Over() {
            super(null, null, false, false);
        }
    }

    private static final class Wish implements Cloneable {
        int whose;
        int kind;
        int whom = -1;
        int worth;

        Wish copy() {
            Wish w = new Wish();
            w.whose = whose;
            w.kind = kind;
            w.whom = whom;
            w.worth = worth;
            return w;
        }
    }

    private static final class Article {
        String name;
        int takes;
        int odds = 16;
        Set<Integer> leans = new TreeSet<>();
        int worked;
        boolean agreed;

        Article copy() {
            Article a = new Article();
            a.name = name;
            a.takes = takes;
            a.odds = odds;
            a.leans.addAll(leans);
            a.worked = worked;
            a.agreed = agreed;
            return a;
        }
    }

    private static final class Step {
        String word;
        String test = "";
        int a;
        int b;
        List<Step> body = new ArrayList<>();
    }

    private static final class World {
        int places;
        Set<Integer> corners = new TreeSet<>();
        List<String> names = new ArrayList<>();
        List<Integer> leasts = new ArrayList<>();
        List<Integer> seats = new ArrayList<>();
        List<Wish> wishes = new ArrayList<>();
        List<Article> articles = new ArrayList<>();
        int day;
        List<Step> sessions;
        int steps;

        World copy() {
            World w = new World();
            w.places = places;
            w.corners.addAll(corners);
            w.names.addAll(names);
            w.leasts.addAll(leasts);
            w.seats.addAll(seats);
            for (Wish x : wishes) {
                w.wishes.add(x.copy());
            }
            for (Article x : articles) {
                w.articles.add(x.copy());
            }
            w.day = day;
            w.sessions = sessions;
            w.steps = steps;
            return w;
        }

        int n() {
            return names.size();
        }

        boolean ready(int i) {
            Article a = articles.get(i);
            if (a.agreed) {
                return false;
            }
            for (int k : a.leans) {
                if (!articles.get(k).agreed) {
                    return false;
                }
            }
            return true;
        }

        /** The ring walked from a: is b the next one, or is a the next one of b. */
        boolean beside(int a, int b) {
            return a >= 0 && b >= 0 && ((a + 1) % places == b || (b + 1) % places == a);
        }

        boolean facing(int a, int b) {
            if (a < 0 || b < 0 || a == b) {
                return false;
            }
            int there = 0;
            for (int p = (a + 1) % places; p != b; p = (p + 1) % places) {
                there++;
            }
            int back = 0;
            for (int p = (b + 1) % places; p != a; p = (p + 1) % places) {
                back++;
            }
            return there == back;
        }

        boolean has(Wish w, List<Integer> s) {
            int p = s.get(w.whose);
            if (w.kind == 2) {
                return p >= 0 && corners.contains(p);
            }
            return w.kind == 0 ? beside(p, s.get(w.whom)) : facing(p, s.get(w.whom));
        }

        int worth(int party, List<Integer> s) {
            int sum = 0;
            for (Wish w : wishes) {
                sum += w.whose == party && has(w, s) ? w.worth : 0;
            }
            return sum;
        }

        int all(List<Integer> s) {
            int sum = 0;
            for (int i = 0; i < n(); i++) {
                sum += worth(i, s);
            }
            return sum;
        }

        int signers(List<Integer> s) {
            int set = 0;
            for (int i = 0; i < n(); i++) {
                set += worth(i, s) >= leasts.get(i) ? 1 << i : 0;
            }
            return set;
        }

        int fish(List<Integer> s) {
            int sum = 0;
            for (int i = 0; i < n(); i++) {
                int lack = leasts.get(i) - worth(i, s);
                sum += lack > 0 ? lack : 0;
            }
            return sum;
        }

        List<List<Integer>> seatings() {
            List<List<Integer>> out = new ArrayList<>();
            if (places > 0) {
                grow(new ArrayList<>(), out);
            }
            return out;
        }

        private void grow(List<Integer> begun, List<List<Integer>> out) {
            if (begun.size() == n()) {
                out.add(new ArrayList<>(begun));
                return;
            }
            for (int p = 0; p < places; p++) {
                if (!begun.contains(p)) {
                    begun.add(p);
                    grow(begun, out);
                    begun.remove(begun.size() - 1);
                }
            }
        }

        boolean dayGoesBy() {
            day++;
            for (int i = 0; i < articles.size(); i++) {
                if (ready(i)) {
                    Article a = articles.get(i);
                    a.worked++;
                    if (a.worked == a.takes) {
                        a.agreed = true;
                        return true;
                    }
                    return false;
                }
            }
            return false;
        }

        int withdraw(int i) {
            Set<Integer> fall = new TreeSet<>();
            fall.add(i);
            boolean more = true;
            while (more) {
                more = false;
                for (int k = 0; k < articles.size(); k++) {
                    Article a = articles.get(k);
                    if (a.agreed && !fall.contains(k) && !Collections.disjoint(a.leans, fall)) {
                        fall.add(k);
                        more = true;
                    }
                }
            }
            for (int k : fall) {
                articles.get(k).agreed = false;
                articles.get(k).worked = 0;
            }
            return fall.size();
        }

        int agreedSet() {
            int set = 0;
            for (int i = 0; i < articles.size(); i++) {
                set += articles.get(i).agreed ? 1 << i : 0;
            }
            return set;
        }

        Set<Integer> leansOf(int i) {
            Set<Integer> out = new TreeSet<>();
            Deque<Integer> todo = new ArrayDeque<>(articles.get(i).leans);
            while (!todo.isEmpty()) {
                int k = todo.pop();
                if (out.add(k)) {
                    todo.addAll(articles.get(k).leans);
                }
            }
            return out;
        }

        int fallsOf(int i) {
            int set = 1 << i;
            for (int k = 0; k < articles.size(); k++) {
                set |= leansOf(k).contains(i) ? 1 << k : 0;
            }
            return set;
        }

        BigInteger[] luck(int i) {
            BigInteger up = BigInteger.valueOf(articles.get(i).odds);
            BigInteger down = BigInteger.valueOf(16);
            for (int k : leansOf(i)) {
                up = up.multiply(BigInteger.valueOf(articles.get(k).odds));
                down = down.multiply(BigInteger.valueOf(16));
            }
            return new BigInteger[] {up, down};
        }

        int orders() {
            boolean open = false;
            int sum = 0;
            for (int i = 0; i < articles.size(); i++) {
                open |= !articles.get(i).agreed;
                if (ready(i)) {
                    articles.get(i).agreed = true;
                    sum += orders();
                    articles.get(i).agreed = false;
                }
            }
            return open ? sum : 1;
        }
    }

    // ---- the state

    int status;
    BigInteger top = BigInteger.ZERO;
    BigInteger bottom = BigInteger.ONE;
    private final long[][] trays = new long[4][];
    private final int[] sorts = new int[4];
    private String tape = "";
    private int faultKind = -1;
    private int faultPlace = -1;
    private World w = new World();
    private final List<World> marks = new ArrayList<>();
    private int[] lived;

    /** How many there are of PLACES (0), PARTIES (1), WISHES (2), ARTICLES (3). */
    int size(int what) {
        return new int[] {w.places, w.n(), w.wishes.size(), w.articles.size()}[what];
    }

    // ---- the calls

    long call(String name, long[] v) {
        int[] a = new int[v.length];
        for (int i = 0; i < v.length; i++) {
            a[i] = (int) v[i];
        }
        if (name.equals("status")) {
            return status;
        } else if (name.equals("top")) {
            return top.longValueExact();
        } else if (name.equals("bottom")) {
            return bottom.longValueExact();
        } else if (name.equals("feed")) {
            return feed(a);
        } else if (name.equals("fault")) {
            return a[0] == 0 ? faultKind : a[0] == 1 ? faultPlace : -1;
        }
        try {
            long answer = asked(name, v, a);
            status = 0;
            return answer;
        } catch (Refused no) {
            status = no.status;
            return returnsBoolean(name) ? 0 : -1;
        }
    }

    private static boolean returnsBoolean(String name) {
        return Arrays.asList("tray", "write", "pour", "swap", "insist", "value", "carve", "luck", "mean")
            .contains(name);
    }

    private static void need(boolean holds, int status) {
        if (!holds) {
            throw new Refused(status);
        }
    }

    private static void in(int number, int low, int high) {
        need(low <= number && number <= high, 1);
    }

    private void party(int p) {
        in(p, 0, w.n() - 1);
    }

    private void two(int p, int q) {
        party(p);
        party(q);
        need(p != q, 1);
    }

    private void article(int i) {
        in(i, 0, w.articles.size() - 1);
    }

    private int feed(int[] a) {
        if (tape.length() + 20 > 900) {
            return -1;
        }
        StringBuilder s = new StringBuilder(tape);
        for (int x : a) {
            s.append((char) (x >>> 24)).append((char) (x >>> 16 & 255));
            s.append((char) (x >>> 8 & 255)).append((char) (x & 255));
        }
        tape = s.toString();
        return tape.length();
    }

    private long asked(String name, long[] v, int[] a) {
        switch (name) {
            case "tray": {
                in(a[0], 0, 3);
                in(a[1], 0, 3);
                in(a[2], 0, 60);
                trays[a[0]] = new long[a[2]];
                sorts[a[0]] = a[1];
                return 1;
            }
            case "write":
                held(a[0], a[1]);
                trays[a[0]][a[1]] = cut(v[2], sorts[a[0]]);
                return 1;
            case "read":
                held(a[0], a[1]);
                return trays[a[0]][a[1]];
            case "pour":
                return pour(a);
            case "committee":
                return committee(a[0]);
            case "sessions":
                return sessions(a[0]);
            case "told":
                return told(a[0]);
            case "who":
                in(a[0], 0, w.places - 1);
                need(w.seats.contains(a[0]), 6);
                return w.seats.indexOf(a[0]);
            case "placeOf":
                party(a[0]);
                need(w.seats.get(a[0]) >= 0, 6);
                return w.seats.get(a[0]);
            case "least":
                party(a[0]);
                return w.leasts.get(a[0]);
            case "wish":
                return wish(a[0], a[1]);
            case "article":
                return articleTold(a[0], a[1]);
            case "beside":
                two(a[0], a[1]);
                return w.beside(w.seats.get(a[0]), w.seats.get(a[1])) ? 1 : 0;
            case "facing":
                two(a[0], a[1]);
                return w.facing(w.seats.get(a[0]), w.seats.get(a[1])) ? 1 : 0;
            case "worth":
                party(a[0]);
                return w.worth(a[0], w.seats);
            case "allWorth":
                return w.all(w.seats);
            case "signs":
                party(a[0]);
                return w.signers(w.seats) >> a[0] & 1;
            case "dearest":
                return dearest(a[0]);
            default:
                return askedToDo(name, v, a);
        }
    }

    private void held(int tray, int place) {
        in(tray, 0, 3);
        need(trays[tray] != null, 2);
        need(place >= 0 && place < trays[tray].length, 3);
    }

    private static long cut(long v, int sort) {
        int bits = 8 << sort;
        return BigInteger.valueOf(v).shiftLeft(64 - bits).longValue() >> (64 - bits);
    }

    private long pour(int[] a) {
        in(a[0], 0, 3);
        in(a[2], 0, 3);
        need(a[1] >= 0 && a[3] >= 0 && a[4] >= 0, 1);
        need(trays[a[0]] != null && trays[a[2]] != null, 2);
        need(sorts[a[0]] == sorts[a[2]], 8);
        need((long) a[1] + a[4] <= trays[a[0]].length && (long) a[3] + a[4] <= trays[a[2]].length, 3);
        long[] old = trays[a[0]].clone();
        for (int i = 0; i < a[4]; i++) {
            trays[a[2]][a[3] + i] = old[a[1] + i];
        }
        return 1;
    }

    private long told(int what) {
        in(what, 0, 9);
        int sitting = 0;
        for (int i = 0; i < w.n(); i++) {
            sitting |= w.seats.get(i) >= 0 ? 1 << i : 0;
        }
        int ready = 0;
        for (int i = 0; i < w.articles.size(); i++) {
            ready |= w.ready(i) ? 1 << i : 0;
        }
        int corners = 0;
        for (int c : w.corners) {
            corners |= 1 << c;
        }
        return new int[] {w.places, w.n(), w.wishes.size(), w.articles.size(), w.day, corners, sitting,
            w.signers(w.seats), w.agreedSet(), ready}[what];
    }

    private long wish(int k, int what) {
        in(k, 0, w.wishes.size() - 1);
        in(what, 0, 3);
        Wish x = w.wishes.get(k);
        need(what != 2 || x.kind != 2, 6);
        return new int[] {x.whose, x.kind, x.whom, x.worth}[what];
    }

    private long articleTold(int i, int what) {
        article(i);
        in(what, 0, 4);
        Article x = w.articles.get(i);
        int leans = 0;
        for (int k : x.leans) {
            leans |= 1 << k;
        }
        return new int[] {x.takes, x.odds, leans, x.worked, x.agreed ? 1 : 0}[what];
    }

    private long dearest(int p) {
        party(p);
        int found = -1;
        for (int k = w.wishes.size() - 1; k >= 0; k--) {
            Wish x = w.wishes.get(k);
            if (x.whose == p && x.worth > 0 && w.has(x, w.seats)
                    && (found < 0 || x.worth >= w.wishes.get(found).worth)) {
                found = k;
            }
        }
        need(found >= 0, 6);
        return found;
    }

    private static List<Integer> swapped(List<Integer> s, int a, int b) {
        List<Integer> t = new ArrayList<>(s);
        Collections.swap(t, a, b);
        return t;
    }

    private List<Integer> turned(List<Integer> s, int n) {
        List<Integer> t = new ArrayList<>();
        for (int p : s) {
            t.add(p < 0 ? -1 : (p + n) % w.places);
        }
        return t;
    }

    private long askedToDo(String name, long[] v, int[] a) {
        switch (name) {
            case "sit": {
                party(a[0]);
                in(a[1], 0, w.places - 1);
                int old = w.seats.get(a[0]);
                need(!w.seats.contains(a[1]) || old == a[1], 7);
                w.seats.set(a[0], a[1]);
                return old;
            }
            case "rise": {
                party(a[0]);
                int old = w.seats.get(a[0]);
                need(old >= 0, 7);
                w.seats.set(a[0], -1);
                return old;
            }
            case "swap":
                two(a[0], a[1]);
                need(w.seats.get(a[0]) >= 0 || w.seats.get(a[1]) >= 0, 7);
                w.seats = swapped(w.seats, a[0], a[1]);
                return 1;
            case "turn": {
                in(a[0], 0, 99);
                w.seats = turned(w.seats, a[0]);
                return w.seats.stream().filter(p -> p >= 0).count();
            }
            case "day": {
                in(a[0], 1, 99);
                need(w.day + a[0] <= 9999, 4);
                int count = 0;
                for (int i = 0; i < a[0]; i++) {
                    count += w.dayGoesBy() ? 1 : 0;
                }
                return count;
            }
            case "agree":
                article(a[0]);
                need(w.ready(a[0]), 7);
                w.articles.get(a[0]).agreed = true;
                return Integer.bitCount(w.agreedSet());
            case "withdraw":
                article(a[0]);
                need(w.articles.get(a[0]).agreed, 7);
                return w.withdraw(a[0]);
            case "insist":
                party(a[0]);
                in(a[1], 0, 50);
                w.leasts.set(a[0], a[1]);
                return 1;
            case "value":
                in(a[0], 0, w.wishes.size() - 1);
                need(a[1] >= -9 && a[1] <= 9 && a[1] != 0, 1);
                w.wishes.get(a[0]).worth = a[1];
                return 1;
            case "carve":
                in(a[0], 0, w.places - 1);
                need(w.corners.contains(a[0]) != (a[1] != 0), 7);
                if (a[1] != 0) {
                    w.corners.add(a[0]);
                } else {
                    w.corners.remove(a[0]);
                }
                return 1;
            default:
                return askedOfSeatings(name, a);
        }
    }

    private long askedOfSeatings(String name, int[] a) {
        List<List<Integer>> every = w.seatings();
        int full = (1 << w.n()) - 1;
        switch (name) {
            case "seatings":
                return every.size();
            case "good":
                return every.stream().filter(s -> w.signers(s) == full).count();
            case "classes": {
                Set<String> classes = new HashSet<>();
                for (List<Integer> s : every) {
                    if (w.signers(s) == full) {
                        classes.add(leastLike(s));
                    }
                }
                return classes.size();
            }
            case "goodAt":
                party(a[0]);
                for (List<Integer> s : every) {
                    if (w.signers(s) == full) {
                        return s.get(a[0]);
                    }
                }
                throw new Refused(6);
            case "best":
                need(!every.isEmpty(), 6);
                return w.all(bestOf(every));
            case "bestAt":
                party(a[0]);
                return bestOf(every).get(a[0]);
            case "mostSign":
                need(!every.isEmpty(), 6);
                return every.stream().mapToInt(s -> Integer.bitCount(w.signers(s))).max().getAsInt();
            case "quarrel":
                return quarrel(every);
            case "pleased":
                in(a[0], 0, full);
                need(!every.isEmpty(), 6);
                return every.stream().anyMatch(s -> (w.signers(s) & a[0]) == a[0]) ? 1 : 0;
            case "mostFor":
                party(a[0]);
                return every.stream().mapToInt(s -> w.worth(a[0], s)).max().getAsInt();
            case "signsIn":
                party(a[0]);
                return every.stream().filter(s -> (w.signers(s) >> a[0] & 1) == 1).count();
            case "seatBest":
                need(!every.isEmpty(), 6);
                w.seats = bestOf(every);
                return w.all(w.seats);
            case "fish":
                return w.fish(w.seats);
            case "leastFish":
                need(!every.isEmpty(), 6);
                return every.stream().mapToInt(s -> w.fish(s)).min().getAsInt();
            case "bestSwap":
                return bestSwap();
            case "bestTurn":
                return bestTurn();
            case "signsBy":
                two(a[0], a[1]);
                need(w.seats.get(a[0]) >= 0 || w.seats.get(a[1]) >= 0, 7);
                return w.signers(swapped(w.seats, a[0], a[1]));
            case "game":
                two(a[0], a[1]);
                in(a[2], 0, 3);
                need(w.seats.get(a[0]) >= 0 && w.seats.get(a[1]) >= 0, 7);
                return lead(w.seats, a[0], a[1], a[2], true);
            case "moveOf":
                return moveOf(a);
            default:
                return askedOfArticles(name, a);
        }
    }

    private String leastLike(List<Integer> s) {
        Set<String> all = new TreeSet<>();
        List<Integer> mirror = new ArrayList<>();
        for (int p : s) {
            mirror.add(w.places - 1 - p);
        }
        for (int n = 0; n < w.places; n++) {
            all.add(turned(s, n).toString());
            all.add(turned(mirror, n).toString());
        }
        return all.iterator().next();
    }

    private List<Integer> bestOf(List<List<Integer>> every) {
        List<Integer> found = every.get(0);
        for (List<Integer> s : every) {
            if (w.all(s) > w.all(found)) {
                found = s;
            }
        }
        return found;
    }

    private long quarrel(List<List<Integer>> every) {
        Set<Integer> signers = new HashSet<>();
        for (List<Integer> s : every) {
            signers.add(w.signers(s));
        }
        int found = -1;
        for (int set = 1; set < 1 << w.n(); set++) {
            int asked = set;
            boolean met = signers.stream().anyMatch(t -> (t & asked) == asked);
            if (!met && (found < 0 || Integer.bitCount(set) < Integer.bitCount(found))) {
                found = set;
            }
        }
        need(found > 0, 6);
        return found;
    }

    private long bestSwap() {
        int found = -1;
        int grown = 0;
        for (int i = 0; i < w.n(); i++) {
            for (int k = i + 1; k < w.n(); k++) {
                int grows = w.all(swapped(w.seats, i, k)) - w.all(w.seats);
                if (grows > grown) {
                    grown = grows;
                    found = 10 * i + k;
                }
            }
        }
        need(found >= 0, 6);
        return found;
    }

    private long bestTurn() {
        int found = -1;
        int most = w.all(w.seats);
        for (int n = 1; n < w.places; n++) {
            if (w.all(turned(w.seats, n)) > most) {
                most = w.all(turned(w.seats, n));
                found = n;
            }
        }
        need(found >= 0, 6);
        return found;
    }

    private static List<Integer> moved(List<Integer> s, int mover, int place) {
        int sitter = s.indexOf(place);
        if (sitter >= 0) {
            return swapped(s, mover, sitter);
        }
        List<Integer> t = new ArrayList<>(s);
        t.set(mover, place);
        return t;
    }

    /** Staying is to go where one sits already. */
    private int lead(List<Integer> s, int first, int second, int turns, boolean firstMoves) {
        if (turns == 0) {
            return w.worth(first, s) - w.worth(second, s);
        }
        int sign = firstMoves ? 1 : -1;
        int most = Integer.MIN_VALUE;
        for (int p = 0; p < w.places; p++) {
            List<Integer> t = moved(s, firstMoves ? first : second, p);
            most = Math.max(most, sign * lead(t, first, second, turns - 1, !firstMoves));
        }
        return sign * most;
    }

    private long moveOf(int[] a) {
        two(a[0], a[1]);
        in(a[2], 1, 3);
        need(w.seats.get(a[0]) >= 0 && w.seats.get(a[1]) >= 0, 7);
        int goal = lead(w.seats, a[0], a[1], a[2], true);
        for (int p = 0; p < w.places; p++) {
            if (p != w.seats.get(a[0])
                    && lead(moved(w.seats, a[0], p), a[0], a[1], a[2] - 1, false) == goal) {
                return p;
            }
        }
        throw new Refused(6);
    }

    private long askedOfArticles(String name, int[] a) {
        int n = w.articles.size();
        switch (name) {
            case "leans": {
                article(a[0]);
                int set = 0;
                for (int k : w.leansOf(a[0])) {
                    set |= 1 << k;
                }
                return set;
            }
            case "falls":
                article(a[0]);
                return w.fallsOf(a[0]);
            case "keystone": {
                need(n > 0, 6);
                int found = 0;
                for (int i = 1; i < n; i++) {
                    if (Integer.bitCount(w.fallsOf(i)) > Integer.bitCount(w.fallsOf(found))) {
                        found = i;
                    }
                }
                return found;
            }
            case "orders":
                return w.copy().orders();
            case "soonest": {
                article(a[0]);
                World t = w.copy();
                int days = 0;
                while (!t.articles.get(a[0]).agreed) {
                    t.dayGoesBy();
                    days++;
                }
                return days;
            }
            case "chain":
                article(a[0]);
                return chain(a[0]);
            case "agreedIn": {
                in(a[0], 0, 300);
                World t = w.copy();
                for (int i = 0; i < a[0]; i++) {
                    t.dayGoesBy();
                }
                return t.agreedSet();
            }
            case "luck": {
                article(a[0]);
                BigInteger[] f = w.luck(a[0]);
                fraction(f[0], f[1]);
                return 1;
            }
            case "weakest": {
                need(n > 0, 6);
                int found = 0;
                for (int i = 1; i < n; i++) {
                    BigInteger[] f = w.luck(i);
                    BigInteger[] g = w.luck(found);
                    if (f[0].multiply(g[1]).compareTo(g[0].multiply(f[1])) < 0) {
                        found = i;
                    }
                }
                return found;
            }
            case "copySeats":
                seatTray(a[0]);
                for (int i = 0; i < w.n(); i++) {
                    trays[a[0]][i] = w.seats.get(i);
                }
                return w.n();
            case "seatBy":
                return seatBy(a[0]);
            default:
                return askedOfSessions(name, a);
        }
    }

    private long chain(int i) {
        World t = w.copy();
        int days = 0;
        while (!t.articles.get(i).agreed) {
            List<Article> now = new ArrayList<>();
            for (int k = 0; k < t.articles.size(); k++) {
                if (t.ready(k)) {
                    now.add(t.articles.get(k));
                }
            }
            for (Article x : now) {
                x.worked++;
                x.agreed = x.worked == x.takes;
            }
            days++;
        }
        return days;
    }

    private void fraction(BigInteger up, BigInteger down) {
        BigInteger g = up.gcd(down);
        top = up.divide(g);
        bottom = down.divide(g);
    }

    private void seatTray(int tray) {
        in(tray, 0, 3);
        need(trays[tray] != null, 2);
        need(trays[tray].length >= w.n(), 3);
    }

    private long seatBy(int tray) {
        seatTray(tray);
        List<Integer> s = new ArrayList<>();
        for (int i = 0; i < w.n(); i++) {
            long p = trays[tray][i];
            need(p >= -1 && p < w.places, 5);
            need(p == -1 || !s.contains((int) p), 5);
            s.add((int) p);
        }
        w.seats = s;
        return w.signers(s);
    }

    private long askedOfSessions(String name, int[] a) {
        switch (name) {
            case "live": {
                in(a[0], 0, 9999);
                need(w.sessions != null, 6);
                Run run = new Run(w, a[0]);
                lived = run.figures;
                return run.done;
            }
            case "lived":
                in(a[0], 0, 4);
                need(lived != null, 6);
                return lived[a[0]];
            case "mean": {
                in(a[0], 0, 9999);
                in(a[1], 1, 20);
                in(a[0] + a[1] - 1, 0, 9999);
                need(w.sessions != null, 6);
                int sum = 0;
                for (int i = 0; i < a[1]; i++) {
                    World t = w.copy();
                    new Run(t, a[0] + i);
                    sum += t.all(t.seats);
                }
                fraction(BigInteger.valueOf(sum), BigInteger.valueOf(a[1]));
                return 1;
            }
            case "mark":
                need(marks.size() < 3, 4);
                marks.add(w.copy());
                return marks.size();
            case "undo":
                need(!marks.isEmpty(), 6);
                w = marks.remove(marks.size() - 1);
                return marks.size();
            default:
                throw new IllegalStateException(name);
        }
    }

    /** What the SESSIONS do to a world. */
    private static final class Run {
        final World t;
        long s;
        int done;
        final int[] figures = new int[5];

        Run(World t, int seed) {
            this.t = t;
            s = seed;
            try {
                all(t.sessions);
            } catch (Over over) {
                // by stop, or by the 300
            }
        }

        private int draw(int n) {
            s = (s * 3061 + 11279) % 65536;
            return (int) (s / 8 % n);
        }

        private void all(List<Step> body) {
            for (Step x : body) {
                if (done == 300) {
                    figures[4] = 1;
                    throw new Over();
                }
                done++;
                one(x);
            }
        }

        private void missedUnless(boolean could) {
            figures[0] += could ? 0 : 1;
        }

        private boolean sits(int p, int place) {
            int sitter = t.seats.indexOf(place);
            if (sitter >= 0 && sitter != p) {
                return false;
            }
            t.seats.set(p, place);
            return true;
        }

        private void one(Step x) {
            switch (x.word) {
                case "sit":
                    missedUnless(sits(x.a, x.b));
                    break;
                case "rise":
                    missedUnless(t.seats.get(x.a) >= 0);
                    t.seats.set(x.a, -1);
                    break;
                case "swap": {
                    boolean could = x.a != x.b && (t.seats.get(x.a) >= 0 || t.seats.get(x.b) >= 0);
                    missedUnless(could);
                    if (could) {
                        Collections.swap(t.seats, x.a, x.b);
                    }
                    break;
                }
                case "turn":
                    for (int i = 0; i < t.n(); i++) {
                        int p = t.seats.get(i);
                        t.seats.set(i, p < 0 ? -1 : (p + x.a) % t.places);
                    }
                    break;
                case "day": {
                    boolean could = t.day + x.a <= 9999;
                    missedUnless(could);
                    for (int i = 0; could && i < x.a; i++) {
                        figures[1]++;
                        figures[2] += t.dayGoesBy() ? 1 : 0;
                    }
                    break;
                }
                case "agree": {
                    boolean could = t.ready(x.a);
                    missedUnless(could);
                    if (could) {
                        t.articles.get(x.a).agreed = true;
                        figures[2]++;
                    }
                    break;
                }
                case "withdraw": {
                    boolean could = t.articles.get(x.a).agreed;
                    missedUnless(could);
                    figures[3] += could ? t.withdraw(x.a) : 0;
                    break;
                }
                case "any":
                    if (t.n() == 0) {
                        missedUnless(false);
                    } else {
                        int p = draw(t.n());
                        missedUnless(sits(p, draw(t.places)));
                    }
                    break;
                case "when":
                    if (so(x)) {
                        all(x.body);
                    }
                    break;
                case "loop":
                    for (int i = 0; i < x.a; i++) {
                        all(x.body);
                    }
                    break;
                default:
                    throw new Over();
            }
        }

        private boolean so(Step x) {
            switch (x.test) {
                case "signs":
                    return (t.signers(t.seats) >> x.a & 1) == 1;
                case "agreed":
                    return t.articles.get(x.a).agreed;
                case "<":
                    return t.all(t.seats) < x.b;
                case ">":
                    return t.all(t.seats) > x.b;
                default:
                    return t.all(t.seats) == x.b;
            }
        }
    }

    // ---- texts

    private static final class Token {
        final int place;
        final String text;

        Token(int place, String text) {
            this.place = place;
            this.text = text;
        }

        boolean isWord() {
            return text.matches("[a-z]+");
        }

        boolean isNumber() {
            return text.matches("[0-9]+");
        }
    }

    private List<Token> tokens;
    private int at;

    private void lex(String text) {
        tokens = new ArrayList<>();
        at = 0;
        int i = 0;
        while (i < text.length()) {
            char c = text.charAt(i);
            int k = i + 1;
            if (c >= 'a' && c <= 'z') {
                while (k < text.length() && text.charAt(k) >= 'a' && text.charAt(k) <= 'z') {
                    k++;
                }
            } else if (c >= '0' && c <= '9') {
                while (k < text.length() && text.charAt(k) >= '0' && text.charAt(k) <= '9') {
                    k++;
                }
            }
            if (c != 10 && c != 32) {
                tokens.add(new Token(i, text.substring(i, k)));
            }
            i = k;
        }
        tokens.add(new Token(text.length(), ""));
    }

    /** The TOKEN that stands here; one that is none is a FAULT as soon as it is looked at. */
    private Token here() {
        Token t = tokens.get(at);
        boolean sign = t.text.equals("") || t.text.equals(";") || t.text.equals("<")
            || t.text.equals(">") || t.text.equals("=");
        if (!sign && !t.isWord() && !(t.isNumber() && t.text.length() <= 4)) {
            throw new Fault(1, t.place);
        }
        return t;
    }

    private boolean is(String text) {
        return here().text.equals(text);
    }

    private void pass(String text) {
        if (!is(text)) {
            throw new Fault(2, here().place);
        }
        at++;
    }

    private int number(int low, int high) {
        Token t = here();
        if (!t.isNumber()) {
            throw new Fault(2, t.place);
        }
        int n = Integer.parseInt(t.text);
        if (n < low || n > high) {
            throw new Fault(4, t.place);
        }
        at++;
        return n;
    }

    private String name() {
        Token t = here();
        if (!t.isWord() || t.text.length() > 8 || RESERVED.contains(t.text)) {
            throw new Fault(2, t.place);
        }
        at++;
        return t.text;
    }

    private int before() {
        return tokens.get(at - 1).place;
    }

    private static List<String> articleNames(World t) {
        List<String> names = new ArrayList<>();
        for (Article x : t.articles) {
            names.add(x.name);
        }
        return names;
    }

    private int known(List<String> names) {
        String name = name();
        if (!names.contains(name)) {
            throw new Fault(3, before());
        }
        return names.indexOf(name);
    }

    private String fresh(World t) {
        String name = name();
        if (t.names.contains(name) || articleNames(t).contains(name)) {
            throw new Fault(3, before());
        }
        return name;
    }

    private String takeTape(int n, int most) {
        need(n >= 0 && n <= tape.length() && n <= most, 1);
        String text = tape.substring(0, n);
        tape = "";
        lex(text);
        return text;
    }

    private long committee(int n) {
        takeTape(n, 900);
        World t = new World();
        try {
            while (!is("")) {
                part(t);
            }
        } catch (Fault f) {
            faultKind = f.kind;
            faultPlace = f.place;
            throw new Refused(9);
        }
        faultKind = 0;
        faultPlace = -1;
        w = t;
        return t.wishes.size();
    }

    private void part(World t) {
        Token first = here();
        at++;
        switch (first.text) {
            case "places":
                if (t.places > 0) {
                    throw new Fault(5, first.place);
                }
                t.places = number(3, 6);
                break;
            case "corner":
                if (t.places == 0) {
                    throw new Fault(2, first.place);
                }
                t.corners.add(number(0, t.places - 1));
                break;
            case "party":
                partyPart(t, first);
                break;
            case "wants":
            case "shuns":
                wishPart(t, first);
                break;
            case "article":
                articlePart(t, first);
                break;
            default:
                throw new Fault(2, first.place);
        }
        pass(";");
    }

    private void partyPart(World t, Token first) {
        if (t.places == 0) {
            throw new Fault(2, first.place);
        }
        if (t.n() == 5 || t.n() == t.places) {
            throw new Fault(6, first.place);
        }
        String name = fresh(t);
        int least = 0;
        int seat = -1;
        if (is("least")) {
            at++;
            least = number(0, 50);
        }
        if (is("at")) {
            at++;
            seat = number(0, t.places - 1);
            if (t.seats.contains(seat)) {
                throw new Fault(5, before());
            }
        }
        t.names.add(name);
        t.leasts.add(least);
        t.seats.add(seat);
    }

    private void wishPart(World t, Token first) {
        if (t.wishes.size() == 20) {
            throw new Fault(6, first.place);
        }
        Wish x = new Wish();
        x.whose = known(t.names);
        if (is("corner")) {
            x.kind = 2;
            at++;
        } else {
            x.kind = is("beside") ? 0 : 1;
            pass(x.kind == 0 ? "beside" : "facing");
            x.whom = known(t.names);
            if (x.whom == x.whose) {
                throw new Fault(5, before());
            }
        }
        pass("worth");
        x.worth = number(1, 9) * (first.text.equals("wants") ? 1 : -1);
        t.wishes.add(x);
    }

    private void articlePart(World t, Token first) {
        if (t.articles.size() == 8) {
            throw new Fault(6, first.place);
        }
        Article x = new Article();
        x.name = fresh(t);
        pass("takes");
        x.takes = number(1, 30);
        if (is("odds")) {
            at++;
            x.odds = number(0, 16);
        }
        while (!is(";")) {
            if (!x.leans.add(known(articleNames(t)))) {
                throw new Fault(5, before());
            }
        }
        t.articles.add(x);
    }

    private int stepsRead;

    private long sessions(int n) {
        takeTape(n, 300);
        List<Step> steps = new ArrayList<>();
        stepsRead = 0;
        try {
            while (!is("")) {
                steps.add(step(0));
            }
        } catch (Fault f) {
            faultKind = f.kind;
            faultPlace = f.place;
            throw new Refused(9);
        }
        faultKind = 0;
        faultPlace = -1;
        w.sessions = steps;
        w.steps = stepsRead;
        return stepsRead;
    }

    private Step step(int depth) {
        Token first = here();
        Step x = new Step();
        x.word = first.text;
        if (!Arrays.asList("sit", "rise", "swap", "turn", "day", "agree", "withdraw", "any", "when", "loop",
                "stop").contains(x.word)) {
            throw new Fault(2, first.place);
        }
        if (stepsRead == 30) {
            throw new Fault(6, first.place);
        }
        boolean opens = x.word.equals("when") || x.word.equals("loop");
        if (opens && depth == 3) {
            throw new Fault(7, first.place);
        }
        stepsRead++;
        at++;
        operands(x);
        pass(";");
        if (opens) {
            while (!is("end")) {
                x.body.add(step(depth + 1));
            }
            pass("end");
            pass(";");
        }
        return x;
    }

    private void operands(Step x) {
        switch (x.word) {
            case "sit":
                x.a = known(w.names);
                x.b = number(0, w.places - 1);
                break;
            case "rise":
                x.a = known(w.names);
                break;
            case "swap":
                x.a = known(w.names);
                x.b = known(w.names);
                break;
            case "turn":
                x.a = number(0, 9);
                break;
            case "day":
                x.a = number(1, 20);
                break;
            case "agree":
            case "withdraw":
                x.a = known(articleNames(w));
                break;
            case "loop":
                x.a = number(1, 99);
                break;
            case "when":
                test(x);
                break;
            default:
                break;
        }
    }

    private void test(Step x) {
        if (is("signs")) {
            at++;
            x.test = "signs";
            x.a = known(w.names);
        } else if (is("agreed")) {
            at++;
            x.test = "agreed";
            x.a = known(articleNames(w));
        } else {
            pass("all");
            x.test = here().text;
            if (!Arrays.asList("<", ">", "=").contains(x.test)) {
                throw new Fault(2, here().place);
            }
            at++;
            x.b = number(0, 999);
        }
    }
}
