import java.lang.reflect.Method;
import java.util.ArrayList;
import java.util.Arrays;
import java.util.Comparator;
import java.util.List;
import java.util.Random;

/** Runs of calls by draws from fixed seeds, each answer compared with that of the Oracle. */
public final class FuzzTest {
    private static final int RUNS = 3000;
    private static final int CALLS = 512;

    private final Random random;
    private final StandTable x = new StandTable();
    private final Oracle oracle = new Oracle();
    private final StringBuilder story = new StringBuilder();
    private int calls;
    private boolean wrong;
    /** Whether texts are left as the grammar wants them. */
    private boolean clean;
    private int parties = 3;
    private int places = 4;
    private List<String> partyNames = new ArrayList<>();
    private List<String> articleNames = new ArrayList<>();
    private static final Method[] FACE = face();
    private static final java.util.Map<String, int[]> SEEN = new java.util.TreeMap<>();

    private FuzzTest(long seed) {
        random = new Random(seed);
    }

    private static Method[] face() {
        List<Method> found = new ArrayList<>();
        for (Method m : StandTable.class.getDeclaredMethods()) {
            if (java.lang.reflect.Modifier.isPublic(m.getModifiers())) {
                found.add(m);
            }
        }
        found.sort(Comparator.comparing(Method::getName));
        return found.toArray(new Method[0]);
    }

    public static void main(String[] args) throws Exception {
        for (int run = 0; run < RUNS; run++) {
            FuzzTest test = new FuzzTest(run);
            test.live();
            if (test.wrong) {
                System.out.println("FuzzTest: run " + run + " went wrong:");
                System.out.println(test.story);
                System.exit(1);
            }
        }
        for (String name : SEEN.keySet()) {
            int[] by = SEEN.get(name);
            Check.due(name + " was never answered with STATUS 0", by[0] > 0, true);
        }
        if (args.length > 0) {
            SEEN.forEach((name, by) -> System.out.println(name + " " + Arrays.toString(by)));
        }
        Check.close("FuzzTest, " + RUNS + " runs");
    }

    private void live() throws Exception {
        while (calls < CALLS && !wrong) {
            int kind = random.nextInt(100);
            if (kind < 1 || calls == 0 && kind < 95) {
                text(true);
            } else if (kind < 3) {
                text(false);
            } else if (kind < 4) {
                ask("tray", random.nextInt(4), random.nextInt(4), 4 + random.nextInt(5));
            } else {
                Method m = FACE[random.nextInt(FACE.length)];
                if (m.getName().equals("feed") && random.nextInt(3) > 0
                        || (m.getName().equals("committee") || m.getName().equals("sessions"))
                        && random.nextInt(40) > 0) {
                    continue;
                }
                ask(m, argumentsOf(m));
            }
        }
    }

    private void ask(String name, long... v) throws Exception {
        for (Method m : FACE) {
            if (m.getName().equals(name)) {
                ask(m, v);
            }
        }
    }

    private void ask(Method m, long... v) throws Exception {
        if (calls >= CALLS || wrong) {
            return;
        }
        calls++;
        Object[] args = new Object[v.length];
        Class<?>[] types = m.getParameterTypes();
        for (int i = 0; i < v.length; i++) {
            if (types[i] == long.class) {
                args[i] = v[i];
            } else if (types[i] == boolean.class) {
                args[i] = v[i] != 0;
            } else {
                args[i] = (int) v[i];
            }
        }
        Object got = m.invoke(x, args);
        long answer = got instanceof Boolean ? (Boolean) got ? 1 : 0 : ((Number) got).longValue();
        long due = oracle.call(m.getName(), v);
        story.append(m.getName()).append(Arrays.toString(v)).append(" answered ").append(answer)
            .append(" status ").append(x.status()).append('\n');
        SEEN.computeIfAbsent(m.getName(), k -> new int[10])[x.status()]++;
        if (answer != due || x.status() != oracle.status || x.top() != oracle.top.longValueExact()
                || x.bottom() != oracle.bottom.longValueExact()) {
            story.append("due is ").append(due).append(" status ").append(oracle.status).append('\n');
            wrong = true;
        }
    }

    private long[] argumentsOf(Method m) {
        long[] v = new long[m.getParameterCount()];
        for (int i = 0; i < v.length; i++) {
            v[i] = argument(m.getName(), i, m.getParameterTypes()[i]);
        }
        boolean ofTwo = Arrays.asList("beside", "facing", "swap", "signsBy", "game", "moveOf")
            .contains(m.getName());
        if (ofTwo && v[0] == v[1] && random.nextInt(6) > 0) {
            v[1] = v[0] == 0 ? 1 : v[0] - 1;
        }
        return v;
    }

    private long argument(String name, int i, Class<?> type) {
        int odd = random.nextInt(60);
        int places = oracle.size(0) + (odd == 1 ? 1 : 0);
        int parties = oracle.size(1) + (odd == 2 ? 1 : 0);
        int wishes = oracle.size(2) + (odd == 3 ? 1 : 0);
        int articles = oracle.size(3) + (odd == 4 ? 1 : 0);
        if (type == boolean.class) {
            return random.nextInt(2);
        } else if (name.equals("feed")) {
            return random.nextInt();
        } else if (type == long.class) {
            return random.nextInt(3) == 0 ? random.nextLong() : random.nextInt(9) - 2;
        } else if (odd == 0) {
            return new int[] {-1, Integer.MIN_VALUE, Integer.MAX_VALUE, -7, 100, 9999, 10000, 65536}
                [random.nextInt(8)];
        }
        switch (name) {
            case "tray":
                return i == 2 ? random.nextInt(12) == 0 ? 61 : random.nextInt(12) : random.nextInt(4);
            case "write":
            case "read":
                return i == 0 ? random.nextInt(4) : random.nextInt(8);
            case "pour":
                return i == 0 || i == 2 ? random.nextInt(4) : random.nextInt(5);
            case "copySeats":
            case "seatBy":
                return random.nextInt(4);
            case "committee":
            case "sessions":
                return random.nextInt(40) - 1;
            case "fault":
                return random.nextInt(4) - 1;
            case "told":
                return random.nextInt(11);
            case "who":
                return below(places);
            case "wish":
                return i == 0 ? below(wishes) : below(4);
            case "article":
                return i == 0 ? below(articles) : below(5);
            case "carve":
                return below(places);
            case "sit":
                return i == 0 ? below(parties) : below(places);
            case "turn":
                return random.nextInt(102);
            case "day":
                return random.nextInt(random.nextInt(3) == 0 ? 101 : 10);
            case "insist":
                return i == 0 ? below(parties) : random.nextInt(random.nextInt(8) == 0 ? 52 : 12);
            case "value":
                return i == 0 ? below(wishes) : random.nextInt(21) - 10;
            case "pleased":
                return random.nextInt((1 << parties) + 1);
            case "game":
            case "moveOf":
                return i == 2 ? random.nextInt(5) : below(parties);
            case "agree":
            case "withdraw":
            case "leans":
            case "falls":
            case "soonest":
            case "chain":
            case "luck":
                return below(articles);
            case "agreedIn":
                return random.nextInt(random.nextInt(3) == 0 ? 302 : 40);
            case "live":
                return random.nextInt(10001);
            case "lived":
                return random.nextInt(6);
            case "mean":
                return i == 0 ? random.nextInt(10000) : random.nextInt(22);
            default:
                return below(parties);
        }
    }

    /** A number below a bound, or seldom the bound itself. */
    private int below(int bound) {
        return random.nextInt(20) == 0 ? bound : random.nextInt(Math.max(1, bound));
    }

    // ---- texts by draws

    private void text(boolean committee) throws Exception {
        clean = random.nextInt(3) > 0;
        List<String> oldParties = partyNames;
        List<String> oldArticles = articleNames;
        int oldPlaces = places;
        int oldCount = parties;
        String text = committee ? committeeText() : sessionsText();
        for (int n = clean ? 0 : random.nextInt(3); n > 0; n--) {
            text = spoiled(text);
        }
        int most = committee ? 900 : 300;
        if (text.length() > most) {
            text = text.substring(0, most);
        }
        for (int from = 0; from < text.length(); from += 20) {
            long[] v = new long[5];
            for (int i = 0; i < 20; i++) {
                int c = from + i < text.length() ? text.charAt(from + i) & 255 : 0;
                v[i / 4] = (int) (v[i / 4] << 8 | c);
            }
            ask("feed", v);
        }
        story.append("  '").append(text).append("'\n");
        ask(committee ? "committee" : "sessions", text.length());
        ask("fault", 0);
        ask("fault", 1);
        if (committee && oracle.status != 0) {
            partyNames = oldParties;
            articleNames = oldArticles;
            places = oldPlaces;
            parties = oldCount;
        }
    }

    private String word(String... words) {
        return words[random.nextInt(words.length)];
    }

    private int number(int low, int high) {
        if (!clean && random.nextInt(40) == 0) {
            return random.nextInt(2) == 0 ? high + 1 : Math.max(0, low - 1);
        }
        return low + random.nextInt(high - low + 1);
    }

    private String newName() {
        StringBuilder s = new StringBuilder();
        int length = random.nextInt(8) == 0 ? clean ? 8 : 7 + random.nextInt(3) : clean ? 3 : 1 + random.nextInt(3);
        for (int i = 0; i < length; i++) {
            s.append((char) ('a' + random.nextInt(26)));
        }
        return s.toString();
    }

    private String party() {
        if (partyNames.isEmpty() || !clean && random.nextInt(60) == 0) {
            return articleNames.isEmpty() ? newName() : word(articleNames.toArray(new String[0]));
        }
        return word(partyNames.toArray(new String[0]));
    }

    private String articleName() {
        if (articleNames.isEmpty() || !clean && random.nextInt(60) == 0) {
            return partyNames.isEmpty() ? newName() : word(partyNames.toArray(new String[0]));
        }
        return word(articleNames.toArray(new String[0]));
    }

    private String gap() {
        return word(" ", " ", " ", "\n", "  ", " \n ");
    }

    private String committeeText() {
        partyNames = new ArrayList<>();
        articleNames = new ArrayList<>();
        StringBuilder s = new StringBuilder();
        places = 3 + random.nextInt(4);
        int most = Math.min(5, places);
        parties = Math.max(random.nextInt(most + 1), random.nextInt(most + 1));
        s.append("places").append(gap()).append(clean ? places : number(3, 6)).append(';');
        for (int i = random.nextInt(4); i > 0; i--) {
            s.append(gap()).append("corner ").append(number(0, places - 1)).append(';');
        }
        boolean crowd = !clean && random.nextInt(10) == 0;
        for (int i = 0; i < parties || crowd && i < 7; i++) {
            String name = newName();
            s.append("party ").append(name).append(' ');
            if (random.nextInt(3) > 0) {
                s.append("least ").append(random.nextInt(6) == 0 ? number(0, 50) : number(0, 8)).append(' ');
            }
            if (random.nextInt(3) > 0) {
                s.append("at ").append(clean ? i : number(0, places - 1));
            }
            s.append(!clean && random.nextInt(30) == 0 ? gap() : ";");
            partyNames.add(name);
        }
        int wishes = random.nextInt(20) == 0 ? clean ? 20 : 22 : random.nextInt(16);
        for (int i = 0; i < wishes && !partyNames.isEmpty(); i++) {
            appendWish(s);
        }
        int articles = random.nextInt(20) == 0 && !clean ? 10 : random.nextInt(9);
        for (int i = 0; i < articles; i++) {
            appendArticle(s);
        }
        return s.toString();
    }

    private void appendWish(StringBuilder s) {
        String whose = party();
        s.append(gap()).append(word("wants", "wants", "shuns")).append(' ').append(whose).append(' ');
        int kind = clean && parties == 1 ? 2 : random.nextInt(3);
        if (kind == 2) {
            s.append("corner");
        } else {
            String whom = party();
            // two PARTIES may have drawn one NAME, which is a FAULT
            for (int i = 0; i < (clean ? 50 : 5) && parties > 1 && whom.equals(whose); i++) {
                whom = party();
            }
            s.append(kind == 0 ? "beside " : "facing ").append(whom);
        }
        s.append(" worth ").append(number(1, 9)).append(';');
    }

    private void appendArticle(StringBuilder s) {
        String name = newName();
        s.append("article ").append(name).append(" takes ");
        s.append(random.nextInt(4) == 0 ? number(1, 30) : number(1, 5));
        if (random.nextInt(2) == 0) {
            s.append(" odds ").append(number(0, 16));
        }
        List<String> leans = new ArrayList<>();
        for (int i = random.nextInt(4); i > 0 && !articleNames.isEmpty(); i--) {
            String lean = articleName();
            if (!leans.contains(lean) || !clean && random.nextInt(10) == 0) {
                leans.add(lean);
                s.append(gap()).append(lean);
            }
        }
        s.append(';');
        articleNames.add(name);
    }

    private String sessionsText() {
        StringBuilder s = new StringBuilder();
        int depth = 0;
        int steps = random.nextInt(12) == 0 ? clean ? 30 : 33 : random.nextInt(16);
        boolean only = random.nextInt(8) == 0;
        for (int i = 0; i < steps; i++) {
            if (depth > 0 && random.nextInt(4) == 0) {
                s.append("end;");
                depth--;
            }
            depth += appendStep(s, only ? 7 : stepKind(depth));
        }
        for (; depth > 0; depth--) {
            s.append("end").append(!clean && random.nextInt(20) == 0 ? "" : ";");
        }
        return s.toString();
    }

    private int stepKind(int depth) {
        int kind = random.nextInt(14);
        boolean noParty = partyNames.isEmpty() && (kind < 3 || kind == 10);
        boolean noArticle = articleNames.isEmpty() && (kind == 5 || kind == 6 || kind == 11);
        boolean tooDeep = depth == 3 && kind >= 8 && kind <= 12;
        return clean && (noParty || noArticle || tooDeep) ? 7 : kind;
    }

    private int appendStep(StringBuilder s, int kind) {
        switch (kind) {
            case 0:
                s.append("sit ").append(party()).append(' ').append(number(0, places - 1)).append(';');
                return 0;
            case 1:
                s.append("rise ").append(party()).append(';');
                return 0;
            case 2:
                s.append("swap ").append(party()).append(gap()).append(party()).append(';');
                return 0;
            case 3:
                s.append("turn ").append(number(0, 9)).append(';');
                return 0;
            case 4:
                s.append("day ").append(number(1, 20)).append(';');
                return 0;
            case 5:
                s.append("agree ").append(articleName()).append(';');
                return 0;
            case 6:
                s.append("withdraw ").append(articleName()).append(';');
                return 0;
            case 8:
            case 9:
                s.append("loop ").append(number(1, random.nextInt(3) == 0 ? 99 : 6)).append(';');
                return 1;
            case 10:
                s.append("when signs ").append(party()).append(';');
                return 1;
            case 11:
                s.append("when agreed ").append(articleName()).append(';');
                return 1;
            case 12:
                s.append("when all ").append(word("<", ">", "=")).append(gap());
                s.append(random.nextInt(9) == 0 ? number(0, 999) : number(0, 9)).append(';');
                return 1;
            case 13:
                s.append(random.nextInt(3) == 0 ? "stop;" : "any;");
                return 0;
            default:
                s.append("any").append(gap()).append(';');
                return 0;
        }
    }

    private String spoiled(String text) {
        if (text.isEmpty()) {
            return word("end;", "corner 0;", "party a;", "x", "1", "00003", "\t");
        }
        int at = random.nextInt(text.length());
        int to = Math.min(text.length(), at + 1 + random.nextInt(6));
        switch (random.nextInt(5)) {
            case 0:
                return text.substring(0, at) + text.substring(to);
            case 1:
                return text.substring(0, at);
            case 2:
                return text.substring(0, at) + word("A", "-", "\r", "\u00ff", "{", "`", "/", ":", "!", "\u0000")
                    + text.substring(at);
            case 3:
                return text.substring(0, at) + word(" ", " ;", " all ", " 7 ", "9", "00", "a", " corner ", " < ",
                    " end;", " odds 3", " places ", " least ", " at 0", " = ") + text.substring(at);
            default:
                return text.substring(0, to) + text.substring(at, to) + text.substring(to);
        }
    }
}
