/** The committee on the shape of a table; ../shared/DOC.md says what it promises. */
public final class StandTable {
    public static final int NONE = -1;

    private static final int FINE = 0;
    private static final int BAD_NUMBER = 1;
    private static final int TRAY_MISSING = 2;
    private static final int TRAY_SHORT = 3;
    private static final int ONE_TOO_MANY = 4;
    private static final int BAD_CONTENT = 5;
    private static final int NONE_SUCH = 6;
    private static final int CANNOT_BE = 7;
    private static final int UNLIKE_SORTS = 8;
    private static final int HAS_FAULT = 9;

    private static final int TRAYS = 4;
    private static final int SORTS = 4;
    private static final int TRAY_MOST = 60;
    private static final int TAPE_MOST = 900;
    private static final int FEED_BYTES = 20;
    private static final int SESSIONS_TEXT_MOST = 300;
    private static final int PLACES_LEAST = 3;
    private static final int PLACES_MOST = 6;
    private static final int PARTIES_MOST = 5;
    private static final int LEAST_MOST = 50;
    private static final int WISHES_MOST = 20;
    private static final int WORTH_MOST = 9;
    private static final int ARTICLES_MOST = 8;
    private static final int TAKES_MOST = 30;
    private static final int ODDS_ALL = 16;
    private static final int TURN_MOST = 99;
    private static final int DAYS_MOST = 99;
    private static final int DAYS_AHEAD_MOST = 300;
    private static final int LAST_DAY = 9999;
    private static final int SEED_MOST = 9999;
    private static final int MEAN_MOST = 20;
    private static final int MARKS_MOST = 3;
    private static final int GAME_TURNS_MOST = 3;
    private static final int SEATINGS_MOST = 720;
    private static final int ORDERS_ROW = 256;
    private static final int STEPS_MOST = 30;
    /** Each STEP may be a beginning, and each beginning has a line for its end. */
    private static final int LINES_MOST = 60;
    private static final int NESTED_MOST = 3;
    private static final int LIVED_STEPS_MOST = 300;
    private static final int LIVED_FIGURES = 5;
    private static final int FAR_MORE = 1000000;

    private static final int KIND_BESIDE = 0;
    private static final int KIND_FACING = 1;
    private static final int KIND_CORNER = 2;

    /** The words that are no NAMES; the constants W_ are their numbers in this row. */
    private static final String KEYWORDS = "places corner party least at wants shuns beside facing worth article takes odds sit rise swap turn day agree withdraw any when signs agreed all loop end stop ";
    private static final int KEYWORD_COUNT = 28;
    private static final int W_PLACES = 0;
    private static final int W_CORNER = 1;
    private static final int W_PARTY = 2;
    private static final int W_LEAST = 3;
    private static final int W_AT = 4;
    private static final int W_WANTS = 5;
    private static final int W_SHUNS = 6;
    private static final int W_BESIDE = 7;
    private static final int W_FACING = 8;
    private static final int W_WORTH = 9;
    private static final int W_ARTICLE = 10;
    private static final int W_TAKES = 11;
    private static final int W_ODDS = 12;
    private static final int W_SIT = 13;
    private static final int W_RISE = 14;
    private static final int W_SWAP = 15;
    private static final int W_TURN = 16;
    private static final int W_DAY = 17;
    private static final int W_AGREE = 18;
    private static final int W_WITHDRAW = 19;
    private static final int W_ANY = 20;
    private static final int W_WHEN = 21;
    private static final int W_SIGNS = 22;
    private static final int W_AGREED = 23;
    private static final int W_ALL = 24;
    private static final int W_LOOP = 25;
    private static final int W_END = 26;
    private static final int W_STOP = 27;

    private int status;
    private long top;
    private long bottom;
    private final Tray[] trays = new Tray[TRAYS];
    private final Reader reader = new Reader();
    private int faultTold;
    private int faultPlace;
    private Committee now = new Committee();
    /** What a text is read into and what trial days are lived in, so that now stays as it is. */
    private Committee spare = new Committee();
    private final Steps spareSteps = new Steps();
    private final Committee[] kept = new Committee[MARKS_MOST];
    private int marks;
    private final Survey survey = new Survey();
    private final Agenda agenda = new Agenda();
    private final Life life = new Life();
    private final int[] figures = new int[LIVED_FIGURES];
    private boolean hasLived;
    private final int[] trial = new int[PARTIES_MOST];

    public StandTable() {
        status = FINE;
        top = 0;
        bottom = 1;
        faultTold = NONE;
        faultPlace = NONE;
        for (int i = 0; i < trays.length; i++) {
            trays[i] = new Tray();
        }
        for (int i = 0; i < kept.length; i++) {
            kept[i] = new Committee();
        }
    }

    public int status() {
        return status;
    }

    public long top() {
        return top;
    }

    public long bottom() {
        return bottom;
    }

    // ---- TRAYS

    public boolean tray(int tray, int sort, int many) {
        Tray made = trayAt(tray);
        if (made == null || !within(sort, 0, SORTS - 1) || !within(many, 0, TRAY_MOST)) {
            return deny(BAD_NUMBER);
        }
        made.make(sort, many);
        return grant();
    }

    public boolean write(int tray, int place, long v) {
        Tray goal = trayAt(tray);
        int why = whyNoNumbers(goal, place, 1);
        if (goal == null || why != FINE) {
            return deny(why);
        }
        goal.put(place, v);
        return grant();
    }

    public long read(int tray, int place) {
        Tray source = trayAt(tray);
        int why = whyNoNumbers(source, place, 1);
        if (source == null || why != FINE) {
            return refuse(why);
        }
        status = FINE;
        return source.numberAt(place);
    }

    public boolean pour(int from, int place, int to, int at, int many) {
        Tray source = trayAt(from);
        Tray goal = trayAt(to);
        if (source == null || goal == null || place < 0 || at < 0 || many < 0) {
            return deny(BAD_NUMBER);
        }
        if (source.isMissing() || goal.isMissing()) {
            return deny(TRAY_MISSING);
        }
        if (source.sort != goal.sort) {
            return deny(UNLIKE_SORTS);
        }
        if (!source.spans(place, many) || !goal.spans(at, many)) {
            return deny(TRAY_SHORT);
        }
        System.arraycopy(source.row, place, goal.row, at, many);
        return grant();
    }

    // ---- texts

    public int feed(int a, int b, int c, int d, int e) {
        if (reader.taped > TAPE_MOST - FEED_BYTES) {
            return NONE;
        }
        reader.add(a);
        reader.add(b);
        reader.add(c);
        reader.add(d);
        reader.add(e);
        return reader.taped;
    }

    public int committee(int n) {
        if (n < 0 || n > reader.taped) {
            return refuse(BAD_NUMBER);
        }
        reader.open(n);
        CommitteeText.readAll(reader, spare);
        if (!keepFault()) {
            return refuse(HAS_FAULT);
        }
        Committee old = now;
        now = spare;
        spare = old;
        return answer(now.wishes);
    }

    public int sessions(int n) {
        if (n < 0 || n > reader.taped || n > SESSIONS_TEXT_MOST) {
            return refuse(BAD_NUMBER);
        }
        reader.open(n);
        SessionText.readAll(reader, now, spareSteps);
        if (!keepFault()) {
            return refuse(HAS_FAULT);
        }
        now.steps.takeFrom(spareSteps);
        return answer(now.steps.told);
    }

    public int fault(int what) {
        if (what == 0) {
            return faultTold;
        }
        return what == 1 ? faultPlace : NONE;
    }

    public int told(int what) {
        switch (what) {
            case 0:
                return answer(now.places);
            case 1:
                return answer(now.parties);
            case 2:
                return answer(now.wishes);
            case 3:
                return answer(now.articles);
            case 4:
                return answer(now.date);
            case 5:
                return answer(now.corners);
            case 6:
                return answer(now.sittersOf(now.seats));
            case 7:
                return answer(now.signersOf(now.seats));
            case 8:
                return answer(now.agreed);
            case 9:
                return answer(now.readyArticles());
            default:
                return refuse(BAD_NUMBER);
        }
    }

    public int who(int place) {
        if (!now.isPlace(place)) {
            return refuse(BAD_NUMBER);
        }
        return answerOrNone(now.sitterAt(place, now.seats));
    }

    public int placeOf(int party) {
        if (!now.isParty(party)) {
            return refuse(BAD_NUMBER);
        }
        return answerOrNone(now.seats[party]);
    }

    public int least(int party) {
        if (!now.isParty(party)) {
            return refuse(BAD_NUMBER);
        }
        return answer(now.leasts[party]);
    }

    public int wish(int k, int what) {
        if (!now.isWish(k) || !within(what, 0, 3)) {
            return refuse(BAD_NUMBER);
        }
        switch (what) {
            case 0:
                return answer(now.whose[k]);
            case 1:
                return answer(now.kinds[k]);
            case 2:
                return answerOrNone(now.whom[k]);
            default:
                return answer(now.worths[k]);
        }
    }

    public int article(int article, int what) {
        if (!now.isArticle(article) || !within(what, 0, 4)) {
            return refuse(BAD_NUMBER);
        }
        switch (what) {
            case 0:
                return answer(now.takes[article]);
            case 1:
                return answer(now.odds[article]);
            case 2:
                return answer(now.leansOn[article]);
            case 3:
                return answer(now.worked[article]);
            default:
                return answer(asNumber(now.isAgreed(article)));
        }
    }

    public int beside(int a, int b) {
        if (!areTwo(a, b)) {
            return refuse(BAD_NUMBER);
        }
        return answer(asNumber(now.nextTo(now.seats[a], now.seats[b])));
    }

    public int facing(int a, int b) {
        if (!areTwo(a, b)) {
            return refuse(BAD_NUMBER);
        }
        return answer(asNumber(now.opposite(now.seats[a], now.seats[b])));
    }

    public int worth(int party) {
        if (!now.isParty(party)) {
            return refuse(BAD_NUMBER);
        }
        return answer(now.worthTo(party, now.seats));
    }

    public int allWorth() {
        return answer(now.worthOfAll(now.seats));
    }

    public int signs(int party) {
        if (!now.isParty(party)) {
            return refuse(BAD_NUMBER);
        }
        return answer(asNumber(now.doesSign(party, now.seats)));
    }

    public int dearest(int party) {
        if (!now.isParty(party)) {
            return refuse(BAD_NUMBER);
        }
        return answerOrNone(now.dearestWish(party));
    }

    // ---- what is done

    public int sit(int party, int place) {
        if (!now.isParty(party) || !now.isPlace(place)) {
            return refuse(BAD_NUMBER);
        }
        int had = now.seats[party];
        if (!now.seatOne(party, place)) {
            return refuse(CANNOT_BE);
        }
        return answer(had);
    }

    public int rise(int party) {
        if (!now.isParty(party)) {
            return refuse(BAD_NUMBER);
        }
        int had = now.seats[party];
        if (!now.raiseOne(party)) {
            return refuse(CANNOT_BE);
        }
        return answer(had);
    }

    public boolean swap(int a, int b) {
        if (!areTwo(a, b)) {
            return deny(BAD_NUMBER);
        }
        if (!now.swapTwo(a, b, now.seats)) {
            return deny(CANNOT_BE);
        }
        return grant();
    }

    public int turn(int n) {
        if (!within(n, 0, TURN_MOST)) {
            return refuse(BAD_NUMBER);
        }
        now.turnAll(n, now.seats);
        return answer(Integer.bitCount(now.sittersOf(now.seats)));
    }

    public int day(int many) {
        if (!within(many, 1, DAYS_MOST)) {
            return refuse(BAD_NUMBER);
        }
        if (now.date > LAST_DAY - many) {
            return refuse(ONE_TOO_MANY);
        }
        return answer(now.passDays(many));
    }

    public int agree(int article) {
        if (!now.isArticle(article)) {
            return refuse(BAD_NUMBER);
        }
        if (!now.agreeOn(article)) {
            return refuse(CANNOT_BE);
        }
        return answer(Integer.bitCount(now.agreed));
    }

    public int withdraw(int article) {
        if (!now.isArticle(article)) {
            return refuse(BAD_NUMBER);
        }
        int fell = now.letFall(article);
        return fell == 0 ? refuse(CANNOT_BE) : answer(fell);
    }

    public boolean insist(int party, int least) {
        if (!now.isParty(party) || !within(least, 0, LEAST_MOST)) {
            return deny(BAD_NUMBER);
        }
        now.leasts[party] = least;
        return grant();
    }

    public boolean value(int k, int worth) {
        if (!now.isWish(k) || worth == 0 || !within(worth, -WORTH_MOST, WORTH_MOST)) {
            return deny(BAD_NUMBER);
        }
        now.worths[k] = worth;
        return grant();
    }

    public boolean carve(int place, boolean is) {
        if (!now.isPlace(place)) {
            return deny(BAD_NUMBER);
        }
        if (now.isCorner(place) == is) {
            return deny(CANNOT_BE);
        }
        now.corners ^= 1 << place;
        return grant();
    }

    // ---- seatings

    public int seatings() {
        return answer(survey.count(now));
    }

    public int good() {
        return answer(survey.countGood(now));
    }

    public int classes() {
        return answer(survey.countClasses(now));
    }

    public int goodAt(int party) {
        if (!now.isParty(party)) {
            return refuse(BAD_NUMBER);
        }
        if (!survey.findGood(now)) {
            return refuse(NONE_SUCH);
        }
        return answer(survey.row[party]);
    }

    public int best() {
        if (now.places == 0) {
            return refuse(NONE_SUCH);
        }
        return answer(survey.findBest(now));
    }

    public int bestAt(int party) {
        if (!now.isParty(party)) {
            return refuse(BAD_NUMBER);
        }
        survey.findBest(now);
        return answer(survey.chosen[party]);
    }

    public int mostSign() {
        if (now.places == 0) {
            return refuse(NONE_SUCH);
        }
        return answer(Survey.mostOf(survey.outcomes(now)));
    }

    public int quarrel() {
        return answerOrNone(Survey.leastUnmet(survey.outcomes(now), now.parties));
    }

    public int pleased(int parties) {
        if (!within(parties, 0, now.allParties())) {
            return refuse(BAD_NUMBER);
        }
        if (now.places == 0) {
            return refuse(NONE_SUCH);
        }
        return answer(asNumber(Survey.isMet(survey.outcomes(now), parties)));
    }

    public int mostFor(int party) {
        if (!now.isParty(party)) {
            return refuse(BAD_NUMBER);
        }
        return answer(survey.mostWorthTo(now, party));
    }

    public int signsIn(int party) {
        if (!now.isParty(party)) {
            return refuse(BAD_NUMBER);
        }
        return answer(survey.countSigned(now, party));
    }

    public int seatBest() {
        if (now.places == 0) {
            return refuse(NONE_SUCH);
        }
        int most = survey.findBest(now);
        System.arraycopy(survey.chosen, 0, now.seats, 0, PARTIES_MOST);
        return answer(most);
    }

    public int fish() {
        return answer(now.lackOf(now.seats));
    }

    public int leastFish() {
        if (now.places == 0) {
            return refuse(NONE_SUCH);
        }
        return answer(survey.leastLack(now));
    }

    public int bestSwap() {
        int most = now.worthOfAll(now.seats);
        int found = NONE;
        for (int a = 0; a < now.parties; a++) {
            for (int b = a + 1; b < now.parties; b++) {
                layTrial();
                if (now.swapTwo(a, b, trial) && now.worthOfAll(trial) > most) {
                    most = now.worthOfAll(trial);
                    found = 10 * a + b;
                }
            }
        }
        return answerOrNone(found);
    }

    public int bestTurn() {
        int most = now.worthOfAll(now.seats);
        int found = NONE;
        for (int n = 1; n < now.places; n++) {
            layTrial();
            now.turnAll(n, trial);
            int reached = now.worthOfAll(trial);
            if (reached > most) {
                most = reached;
                found = n;
            }
        }
        return answerOrNone(found);
    }

    public int signsBy(int a, int b) {
        if (!areTwo(a, b)) {
            return refuse(BAD_NUMBER);
        }
        layTrial();
        if (!now.swapTwo(a, b, trial)) {
            return refuse(CANNOT_BE);
        }
        return answer(now.signersOf(trial));
    }

    // ---- games

    public int game(int party, int other, int turns) {
        int why = whyNoGame(party, other, turns, 0);
        if (why != FINE) {
            return refuse(why);
        }
        layTrial();
        return answer(Play.bestLead(now, trial, party, other, turns, true));
    }

    public int moveOf(int party, int other, int turns) {
        int why = whyNoGame(party, other, turns, 1);
        if (why != FINE) {
            return refuse(why);
        }
        layTrial();
        return answerOrNone(Play.firstMove(now, trial, party, other, turns));
    }

    // ---- articles

    public int leans(int article) {
        if (!now.isArticle(article)) {
            return refuse(BAD_NUMBER);
        }
        return answer(now.allLeansOf(article));
    }

    public int falls(int article) {
        if (!now.isArticle(article)) {
            return refuse(BAD_NUMBER);
        }
        return answer(now.allFallsOf(article));
    }

    public int keystone() {
        return answerOrNone(Agenda.keystoneOf(now));
    }

    public int orders() {
        return answer(agenda.countOrders(now));
    }

    public int soonest(int article) {
        if (!now.isArticle(article)) {
            return refuse(BAD_NUMBER);
        }
        spare.takeFrom(now);
        return answer(Agenda.daysTill(spare, article));
    }

    public int chain(int article) {
        if (!now.isArticle(article)) {
            return refuse(BAD_NUMBER);
        }
        return answer(agenda.daysTogether(now, article));
    }

    public int agreedIn(int days) {
        if (!within(days, 0, DAYS_AHEAD_MOST)) {
            return refuse(BAD_NUMBER);
        }
        spare.takeFrom(now);
        spare.passDays(days);
        return answer(spare.agreed);
    }

    public boolean luck(int article) {
        if (!now.isArticle(article)) {
            return deny(BAD_NUMBER);
        }
        int all = now.allLeansOf(article) | 1 << article;
        long whole = 1;
        for (int i = 0; i < Integer.bitCount(all); i++) {
            whole *= ODDS_ALL;
        }
        tellFraction(Agenda.oddsOfAll(now, all), whole);
        return grant();
    }

    public int weakest() {
        return answerOrNone(Agenda.weakestOf(now));
    }

    public int copySeats(int tray) {
        Tray goal = trayAt(tray);
        int why = whyNoNumbers(goal, 0, now.parties);
        if (goal == null || why != FINE) {
            return refuse(why);
        }
        for (int i = 0; i < now.parties && i < now.seats.length; i++) {
            goal.put(i, now.seats[i]);
        }
        return answer(now.parties);
    }

    public int seatBy(int tray) {
        Tray source = trayAt(tray);
        int why = whyNoNumbers(source, 0, now.parties);
        if (source == null || why != FINE) {
            return refuse(why);
        }
        layTrial();
        if (!changeTrialBy(source)) {
            return refuse(BAD_CONTENT);
        }
        System.arraycopy(trial, 0, now.seats, 0, PARTIES_MOST);
        return answer(now.signersOf(now.seats));
    }

    // ---- SESSIONS

    public int live(int seed) {
        if (!within(seed, 0, SEED_MOST)) {
            return refuse(BAD_NUMBER);
        }
        if (!now.steps.there) {
            return refuse(NONE_SUCH);
        }
        life.run(now, seed);
        life.tellTo(figures);
        hasLived = true;
        return answer(life.done);
    }

    public int lived(int what) {
        if (what < 0 || what >= figures.length) {
            return refuse(BAD_NUMBER);
        }
        return hasLived ? answer(figures[what]) : refuse(NONE_SUCH);
    }

    public boolean mean(int seed, int many) {
        if (!within(seed, 0, SEED_MOST) || !within(many, 1, MEAN_MOST)
                || seed > SEED_MOST - (many - 1)) {
            return deny(BAD_NUMBER);
        }
        if (!now.steps.there) {
            return deny(NONE_SUCH);
        }
        long sum = 0;
        for (int i = 0; i < many; i++) {
            spare.takeFrom(now);
            life.run(spare, seed + i);
            sum += spare.worthOfAll(spare.seats);
        }
        tellFraction(sum, many);
        return grant();
    }

    // ---- MARKS

    public int mark() {
        Committee free = keptAt(marks);
        if (free == null) {
            return refuse(ONE_TOO_MANY);
        }
        free.takeFrom(now);
        marks++;
        return answer(marks);
    }

    public int undo() {
        Committee latest = keptAt(marks - 1);
        if (latest == null) {
            return refuse(NONE_SUCH);
        }
        marks--;
        now.takeFrom(latest);
        return answer(marks);
    }

    // ---- what the calls share

    private int answer(int told) {
        status = FINE;
        return told;
    }

    private int answerOrNone(int told) {
        return told == NONE ? refuse(NONE_SUCH) : answer(told);
    }

    private int refuse(int why) {
        status = why;
        return NONE;
    }

    private boolean grant() {
        status = FINE;
        return true;
    }

    private boolean deny(int why) {
        status = why;
        return false;
    }

    private static boolean within(int number, int low, int high) {
        return number >= low && number <= high;
    }

    private static int asNumber(boolean is) {
        return is ? 1 : 0;
    }

    private static boolean holds(int set, int member) {
        return (set >> member & 1) == 1;
    }

    /** null if there is no such one. */
    private Tray trayAt(int tray) {
        return tray >= 0 && tray < trays.length ? trays[tray] : null;
    }

    /** null if there is no such one. */
    private Committee keptAt(int mark) {
        return mark >= 0 && mark < kept.length ? kept[mark] : null;
    }

    /** Why a TRAY has not so many numbers from a place on. */
    private static int whyNoNumbers(Tray tray, int place, int many) {
        if (tray == null) {
            return BAD_NUMBER;
        }
        if (tray.isMissing()) {
            return TRAY_MISSING;
        }
        return tray.spans(place, many) ? FINE : TRAY_SHORT;
    }

    private int whyNoGame(int party, int other, int turns, int fewest) {
        if (!areTwo(party, other) || !within(turns, fewest, GAME_TURNS_MOST)) {
            return BAD_NUMBER;
        }
        return now.sits(party) && now.sits(other) ? FINE : CANNOT_BE;
    }

    private boolean areTwo(int a, int b) {
        return now.isParty(a) && now.isParty(b) && a != b;
    }

    /** Keeps what fault() tells of the text just read; whether it is without one. */
    private boolean keepFault() {
        faultTold = reader.fault;
        faultPlace = reader.faultPlace;
        return faultTold == 0;
    }

    private void layTrial() {
        System.arraycopy(now.seats, 0, trial, 0, PARTIES_MOST);
    }

    /** Whether the numbers of a TRAY can be where all PARTIES sit. */
    private boolean changeTrialBy(Tray tray) {
        int taken = 0;
        for (int i = 0; i < now.parties && i < trial.length; i++) {
            long number = tray.numberAt(i);
            if (number < NONE || number >= now.places) {
                return false;
            }
            int place = (int) number;
            if (place != NONE && holds(taken, place)) {
                return false;
            }
            taken |= place == NONE ? 0 : 1 << place;
            trial[i] = place;
        }
        return true;
    }

    private void tellFraction(long upper, long lower) {
        long common = commonDivisor(Math.abs(upper), lower);
        if (common > 0) {
            top = upper / common;
            bottom = lower / common;
        }
    }

    private static long commonDivisor(long a, long b) {
        long larger = a;
        long lesser = b;
        for (int i = 0; i < FAR_MORE && lesser != 0; i++) {
            long rest = larger % lesser;
            larger = lesser;
            lesser = rest;
        }
        return larger;
    }

    /** A row of numbers of one sort. */
    private static final class Tray {
        int sort = NONE;
        int many;
        final long[] row = new long[TRAY_MOST];

        boolean isMissing() {
            return sort == NONE;
        }

        void make(int newSort, int newMany) {
            sort = newSort;
            many = newMany;
            for (int i = 0; i < row.length; i++) {
                row[i] = 0;
            }
        }

        /** Subtracts where a sum of the two numbers could run over. */
        boolean spans(int place, int count) {
            return place >= 0 && count >= 0 && many <= row.length && place <= many && count <= many - place;
        }

        long numberAt(int place) {
            return spans(place, 1) ? row[place] : 0;
        }

        void put(int place, long number) {
            if (spans(place, 1)) {
                row[place] = cut(number);
            }
        }

        private long cut(long number) {
            switch (sort) {
                case 0:
                    return (byte) number;
                case 1:
                    return (short) number;
                case 2:
                    return (int) number;
                default:
                    return number;
            }
        }
    }

    /** The COMMITTEE as told, and what became of it; a seat of NONE is who stands. */
    private static final class Committee {
        int places;
        int corners;
        int parties;
        int wishes;
        int articles;
        int agreed;
        int date;
        final long[] partyNames = new long[PARTIES_MOST];
        final int[] leasts = new int[PARTIES_MOST];
        final int[] seats = new int[PARTIES_MOST];
        final int[] whose = new int[WISHES_MOST];
        final int[] kinds = new int[WISHES_MOST];
        final int[] whom = new int[WISHES_MOST];
        final int[] worths = new int[WISHES_MOST];
        final long[] articleNames = new long[ARTICLES_MOST];
        final int[] takes = new int[ARTICLES_MOST];
        final int[] odds = new int[ARTICLES_MOST];
        final int[] leansOn = new int[ARTICLES_MOST];
        final int[] worked = new int[ARTICLES_MOST];
        final Steps steps = new Steps();
        /** WORTH to each PARTY, for signersOf and lackOf alone. */
        final int[] scales = new int[PARTIES_MOST];

        void clear() {
            places = 0;
            corners = 0;
            parties = 0;
            wishes = 0;
            articles = 0;
            agreed = 0;
            date = 0;
            steps.clear();
        }

        void takeFrom(Committee other) {
            places = other.places;
            corners = other.corners;
            parties = other.parties;
            wishes = other.wishes;
            articles = other.articles;
            agreed = other.agreed;
            date = other.date;
            System.arraycopy(other.partyNames, 0, partyNames, 0, PARTIES_MOST);
            System.arraycopy(other.leasts, 0, leasts, 0, PARTIES_MOST);
            System.arraycopy(other.seats, 0, seats, 0, PARTIES_MOST);
            System.arraycopy(other.whose, 0, whose, 0, WISHES_MOST);
            System.arraycopy(other.kinds, 0, kinds, 0, WISHES_MOST);
            System.arraycopy(other.whom, 0, whom, 0, WISHES_MOST);
            System.arraycopy(other.worths, 0, worths, 0, WISHES_MOST);
            System.arraycopy(other.articleNames, 0, articleNames, 0, ARTICLES_MOST);
            System.arraycopy(other.takes, 0, takes, 0, ARTICLES_MOST);
            System.arraycopy(other.odds, 0, odds, 0, ARTICLES_MOST);
            System.arraycopy(other.leansOn, 0, leansOn, 0, ARTICLES_MOST);
            System.arraycopy(other.worked, 0, worked, 0, ARTICLES_MOST);
            steps.takeFrom(other.steps);
        }

        boolean isPlace(int place) {
            return place >= 0 && place < places;
        }

        boolean isParty(int party) {
            return party >= 0 && party < parties && party < PARTIES_MOST;
        }

        boolean isWish(int wish) {
            return wish >= 0 && wish < wishes && wish < WISHES_MOST;
        }

        boolean isArticle(int article) {
            return article >= 0 && article < articles && article < ARTICLES_MOST;
        }

        boolean isCorner(int place) {
            return holds(corners, place);
        }

        boolean isAgreed(int article) {
            return holds(agreed, article);
        }

        int allParties() {
            return (1 << parties) - 1;
        }

        int partyNamed(long name) {
            for (int i = 0; i < parties && i < partyNames.length; i++) {
                if (partyNames[i] == name) {
                    return i;
                }
            }
            return NONE;
        }

        int articleNamed(long name) {
            for (int i = 0; i < articles && i < articleNames.length; i++) {
                if (articleNames[i] == name) {
                    return i;
                }
            }
            return NONE;
        }

        // ---- who sits where; a row is a PLACE, or NONE, PARTY by PARTY

        int sitterAt(int place, int[] row) {
            for (int i = 0; i < parties && i < row.length; i++) {
                if (row[i] == place) {
                    return i;
                }
            }
            return NONE;
        }

        /** Who is no PARTY stands. */
        static int seatIn(int[] row, int party) {
            return party >= 0 && party < row.length ? row[party] : NONE;
        }

        boolean sits(int party) {
            return isParty(party) && seats[party] != NONE;
        }

        int sittersOf(int[] row) {
            int set = 0;
            for (int i = 0; i < parties && i < row.length; i++) {
                if (row[i] != NONE) {
                    set |= 1 << i;
                }
            }
            return set;
        }

        boolean nextTo(int a, int b) {
            if (a == NONE || b == NONE) {
                return false;
            }
            int apart = Math.abs(a - b);
            return apart == 1 || apart == places - 1;
        }

        boolean opposite(int a, int b) {
            return a != NONE && b != NONE && 2 * Math.abs(a - b) == places;
        }

        boolean seatOne(int party, int place) {
            int sitter = sitterAt(place, seats);
            if (!isParty(party) || !isPlace(place) || sitter != NONE && sitter != party) {
                return false;
            }
            seats[party] = place;
            return true;
        }

        boolean raiseOne(int party) {
            if (!isParty(party) || seats[party] == NONE) {
                return false;
            }
            seats[party] = NONE;
            return true;
        }

        boolean swapTwo(int a, int b, int[] row) {
            int first = seatIn(row, a);
            int second = seatIn(row, b);
            if (a == b || first == NONE && second == NONE || !isParty(a) || !isParty(b)) {
                return false;
            }
            row[a] = second;
            row[b] = first;
            return true;
        }

        void turnAll(int n, int[] row) {
            for (int i = 0; i < parties && i < row.length; i++) {
                if (places > 0 && row[i] != NONE) {
                    row[i] = (row[i] + n) % places;
                }
            }
        }

        // ---- what a row is worth

        boolean isMet(int wish, int[] row) {
            int place = isWish(wish) ? seatIn(row, whose[wish]) : NONE;
            if (place == NONE) {
                return false;
            }
            if (kinds[wish] == KIND_CORNER) {
                return holds(corners, place);
            }
            int other = seatIn(row, whom[wish]);
            return kinds[wish] == KIND_BESIDE ? nextTo(place, other) : opposite(place, other);
        }

        int worthTo(int party, int[] row) {
            int sum = 0;
            for (int k = 0; k < wishes && k < WISHES_MOST; k++) {
                if (whose[k] == party && isMet(k, row)) {
                    sum += worths[k];
                }
            }
            return sum;
        }

        int worthOfAll(int[] row) {
            int sum = 0;
            for (int k = 0; k < wishes && k < WISHES_MOST; k++) {
                if (isMet(k, row)) {
                    sum += worths[k];
                }
            }
            return sum;
        }

        boolean doesSign(int party, int[] row) {
            return isParty(party) && worthTo(party, row) >= leasts[party];
        }

        int signersOf(int[] row) {
            weigh(row);
            int set = 0;
            for (int i = 0; i < parties && i < PARTIES_MOST; i++) {
                if (scales[i] >= leasts[i]) {
                    set |= 1 << i;
                }
            }
            return set;
        }

        int lackOf(int[] row) {
            weigh(row);
            int sum = 0;
            for (int i = 0; i < parties && i < PARTIES_MOST; i++) {
                sum += Math.max(0, leasts[i] - scales[i]);
            }
            return sum;
        }

        /** One way through the WISHES for all PARTIES: the surveys ask it 720 times a call. */
        private void weigh(int[] row) {
            for (int i = 0; i < scales.length; i++) {
                scales[i] = 0;
            }
            for (int k = 0; k < wishes && k < WISHES_MOST; k++) {
                int party = whose[k];
                if (isMet(k, row) && isParty(party)) {
                    scales[party] += worths[k];
                }
            }
        }

        int dearestWish(int party) {
            int found = NONE;
            int most = 0;
            for (int k = 0; k < wishes && k < WISHES_MOST; k++) {
                if (whose[k] == party && worths[k] > most && isMet(k, seats)) {
                    found = k;
                    most = worths[k];
                }
            }
            return found;
        }

        // ---- ARTICLES

        /** No ARTICLE leans on itself: of both sets together its leans alone are AGREED. */
        boolean isReady(int article) {
            return article >= 0 && article < leansOn.length
                    && (agreed & (1 << article | leansOn[article])) == leansOn[article];
        }

        int readyArticles() {
            int set = 0;
            for (int i = 0; i < articles; i++) {
                if (isReady(i)) {
                    set |= 1 << i;
                }
            }
            return set;
        }

        /** What an ARTICLE leans on stands ahead of it, so one way down finds all. */
        int allLeansOf(int article) {
            if (!isArticle(article)) {
                return 0;
            }
            int set = leansOn[article];
            for (int i = article - 1; i >= 0; i--) {
                if (holds(set, i)) {
                    set |= leansOn[i];
                }
            }
            return set;
        }

        int allFallsOf(int article) {
            int set = 0;
            for (int i = 0; i < articles && i < leansOn.length; i++) {
                if (i == article || (leansOn[i] & set) != 0) {
                    set |= 1 << i;
                }
            }
            return set;
        }

        boolean agreeOn(int article) {
            if (!isReady(article)) {
                return false;
            }
            agreed |= 1 << article;
            return true;
        }

        /** How many fell: 0 where the ARTICLE was not AGREED. */
        int letFall(int article) {
            if (!isAgreed(article)) {
                return 0;
            }
            int falling = allFallsOf(article) & agreed;
            for (int i = 0; i < articles && i < worked.length; i++) {
                if (holds(falling, i)) {
                    worked[i] = 0;
                }
            }
            agreed &= ~falling;
            return Integer.bitCount(falling);
        }

        int passDays(int many) {
            int count = 0;
            for (int i = 0; i < many; i++) {
                count += passOneDay();
            }
            return count;
        }

        int passOneDay() {
            int before = agreed;
            for (int i = 0; i < articles; i++) {
                if (isReady(i)) {
                    workAt(i);
                    break;
                }
            }
            date++;
            return agreed == before ? 0 : 1;
        }

        private void workAt(int article) {
            if (article >= 0 && article < ARTICLES_MOST) {
                worked[article]++;
                if (worked[article] >= takes[article]) {
                    agreed |= 1 << article;
                }
            }
        }
    }

    /** All SEATINGS of a COMMITTEE, one behind the other in the row. */
    private static final class Survey {
        final int[] row = new int[PARTIES_MOST];
        final int[] chosen = new int[PARTIES_MOST];
        private final int[] like = new int[PARTIES_MOST];
        private final int[] signers = new int[SEATINGS_MOST];

        int count(Committee c) {
            if (c.places == 0) {
                return 0;
            }
            int many = 1;
            for (int i = 0; i < c.parties; i++) {
                many *= c.places - i;
            }
            return many;
        }

        /** The first SEATING comes to the row; how many there are. */
        private int begin(Committee c) {
            fillFrom(c, 0, 0);
            return count(c);
        }

        private void fillFrom(Committee c, int party, int taken) {
            int used = taken;
            for (int i = Math.max(0, party); i < c.parties && i < row.length; i++) {
                row[i] = freeFrom(0, used);
                used |= 1 << row[i];
            }
        }

        private static int freeFrom(int place, int used) {
            int free = place;
            while (free < PLACES_MOST && holds(used, free)) {
                free++;
            }
            return free;
        }

        /** The SEATING behind that in the row: the last PARTY that can go on goes on. */
        private void goOn(Committee c) {
            int used = 0;
            for (int i = 0; i < c.parties && i < row.length; i++) {
                used |= 1 << row[i];
            }
            for (int i = Math.min(c.parties, row.length) - 1; i >= 0; i--) {
                used &= ~(1 << row[i]);
                int free = freeFrom(row[i] + 1, used);
                if (free < c.places) {
                    row[i] = free;
                    fillFrom(c, i + 1, used | 1 << free);
                    return;
                }
            }
        }

        int countGood(Committee c) {
            int many = begin(c);
            int good = 0;
            for (int i = 0; i < many; i++) {
                if (c.signersOf(row) == c.allParties()) {
                    good++;
                }
                goOn(c);
            }
            return good;
        }

        /** The first GOOD SEATING stays in the row, if there is one. */
        boolean findGood(Committee c) {
            int many = begin(c);
            for (int i = 0; i < many; i++) {
                if (c.signersOf(row) == c.allParties()) {
                    return true;
                }
                goOn(c);
            }
            return false;
        }

        /** BEST comes to chosen; its WORTH to all together. */
        int findBest(Committee c) {
            int many = begin(c);
            int most = 0;
            for (int i = 0; i < many; i++) {
                int reached = c.worthOfAll(row);
                if (i == 0 || reached > most) {
                    most = reached;
                    System.arraycopy(row, 0, chosen, 0, PARTIES_MOST);
                }
                goOn(c);
            }
            return most;
        }

        int mostWorthTo(Committee c, int party) {
            int many = begin(c);
            int most = c.worthTo(party, row);
            for (int i = 0; i < many; i++) {
                most = Math.max(most, c.worthTo(party, row));
                goOn(c);
            }
            return most;
        }

        int countSigned(Committee c, int party) {
            int many = begin(c);
            int signed = 0;
            for (int i = 0; i < many; i++) {
                if (c.doesSign(party, row)) {
                    signed++;
                }
                goOn(c);
            }
            return signed;
        }

        int leastLack(Committee c) {
            int many = begin(c);
            int lack = c.lackOf(row);
            for (int i = 0; i < many; i++) {
                lack = Math.min(lack, c.lackOf(row));
                goOn(c);
            }
            return lack;
        }

        /** Which sets of PARTIES SIGN some SEATING as all that SIGN it: a bit for each of 32 sets. */
        int outcomes(Committee c) {
            int many = begin(c);
            int found = 0;
            for (int i = 0; i < many; i++) {
                found |= 1 << c.signersOf(row);
                goOn(c);
            }
            return found;
        }

        static int mostOf(int found) {
            int most = 0;
            for (int set = 0; set < 1 << PARTIES_MOST; set++) {
                if (holds(found, set)) {
                    most = Math.max(most, Integer.bitCount(set));
                }
            }
            return most;
        }

        static boolean isMet(int found, int parties) {
            for (int set = 0; set < 1 << PARTIES_MOST; set++) {
                if (holds(found, set) && (parties & ~set) == 0) {
                    return true;
                }
            }
            return false;
        }

        static int leastUnmet(int found, int parties) {
            for (int size = 1; size <= parties; size++) {
                for (int set = 1; set < 1 << parties; set++) {
                    if (Integer.bitCount(set) == size && !isMet(found, set)) {
                        return set;
                    }
                }
            }
            return NONE;
        }

        /** Of GOOD ones that are ALIKE that one counts which stands first among all. */
        int countClasses(Committee c) {
            int many = begin(c);
            for (int i = 0; i < many && i < signers.length; i++) {
                signers[i] = c.signersOf(row);
                goOn(c);
            }
            begin(c);
            int classes = 0;
            for (int i = 0; i < many && i < signers.length; i++) {
                if (signers[i] == c.allParties() && !isLikeAnEarlierGood(c, i)) {
                    classes++;
                }
                goOn(c);
            }
            return classes;
        }

        private boolean isLikeAnEarlierGood(Committee c, int number) {
            for (int n = 0; n < c.places; n++) {
                if (isGoodAhead(c, n, false, number) || isGoodAhead(c, n, true, number)) {
                    return true;
                }
            }
            return false;
        }

        private boolean isGoodAhead(Committee c, int n, boolean mirrored, int number) {
            for (int i = 0; i < c.parties && i < PARTIES_MOST; i++) {
                like[i] = mirrored ? c.places - 1 - row[i] : row[i];
            }
            c.turnAll(n, like);
            int ahead = numberOf(c, like);
            return ahead >= 0 && ahead < number && ahead < signers.length
                    && signers[ahead] == c.allParties();
        }

        /** Which one of all SEATINGS a row is, from 0 on. */
        private static int numberOf(Committee c, int[] seating) {
            int number = 0;
            int used = 0;
            for (int i = 0; i < c.parties && i < seating.length; i++) {
                int below = used & (1 << seating[i]) - 1;
                number = number * (c.places - i) + seating[i] - Integer.bitCount(below);
                used |= 1 << seating[i];
            }
            return number;
        }
    }

    /** GAMES: each move is taken back in the row behind its trial. */
    private static final class Play {
        private static int bestLead(Committee c, int[] row, int first, int second, int turns,
                boolean firstMoves) {
            int mover = firstMoves ? first : second;
            int home = Committee.seatIn(row, mover);
            if (turns < 1 || turns > GAME_TURNS_MOST || home == NONE) {
                return c.worthTo(first, row) - c.worthTo(second, row);
            }
            int found = bestLead(c, row, first, second, turns - 1, !firstMoves);
            for (int place = 0; place < c.places; place++) {
                if (place != home) {
                    shift(c, row, mover, place);
                    int lead = bestLead(c, row, first, second, turns - 1, !firstMoves);
                    shift(c, row, mover, home);
                    found = firstMoves ? Math.max(found, lead) : Math.min(found, lead);
                }
            }
            return found;
        }

        /** The PLACE of the first's best first move, NONE if it stays. */
        static int firstMove(Committee c, int[] row, int first, int second, int turns) {
            int home = Committee.seatIn(row, first);
            int found = NONE;
            int most = 0;
            for (int place = 0; place < c.places; place++) {
                if (place != home) {
                    shift(c, row, first, place);
                    int lead = bestLead(c, row, first, second, turns - 1, false);
                    shift(c, row, first, home);
                    if (found == NONE || lead > most) {
                        most = lead;
                        found = place;
                    }
                }
            }
            int stayed = bestLead(c, row, first, second, turns - 1, false);
            return stayed > most ? NONE : found;
        }

        private static void shift(Committee c, int[] row, int party, int place) {
            int sitter = c.sitterAt(place, row);
            if (!c.isParty(party)) {
                return;
            }
            if (c.isParty(sitter)) {
                row[sitter] = row[party];
            }
            row[party] = place;
        }
    }

    /** What is asked of the ARTICLES as a whole. */
    private static final class Agenda {
        private final int[] ways = new int[ORDERS_ROW];
        private final int[] ends = new int[ARTICLES_MOST];

        static int keystoneOf(Committee c) {
            int found = NONE;
            int most = 0;
            for (int i = 0; i < c.articles; i++) {
                int falling = Integer.bitCount(c.allFallsOf(i));
                if (falling > most) {
                    most = falling;
                    found = i;
                }
            }
            return found;
        }

        /** ways[set]: in how many orders one comes from what is AGREED now to that set. */
        int countOrders(Committee c) {
            int all = (1 << c.articles) - 1;
            for (int set = 0; set < ways.length; set++) {
                ways[set] = set == c.agreed ? 1 : 0;
            }
            for (int set = 0; set < all && set < ways.length; set++) {
                for (int i = 0; i < c.articles && i < c.leansOn.length; i++) {
                    int next = set | 1 << i;
                    if (next != set && next < ways.length && (c.leansOn[i] & ~set) == 0) {
                        ways[next] += ways[set];
                    }
                }
            }
            return all >= 0 && all < ways.length ? ways[all] : 0;
        }

        /** Lives the days in the COMMITTEE that is handed in. */
        static int daysTill(Committee c, int article) {
            int days = 0;
            while (!c.isAgreed(article) && days < ARTICLES_MOST * TAKES_MOST) {
                c.passOneDay();
                days++;
            }
            return days;
        }

        int daysTogether(Committee c, int article) {
            for (int i = 0; i <= article && i < ARTICLES_MOST; i++) {
                ends[i] = c.isAgreed(i) ? 0 : latestEnd(c.leansOn[i], i) + c.takes[i] - c.worked[i];
            }
            return c.isArticle(article) ? ends[article] : 0;
        }

        private int latestEnd(int set, int below) {
            int latest = 0;
            for (int i = 0; i < below && i < ends.length; i++) {
                if (holds(set, i)) {
                    latest = Math.max(latest, ends[i]);
                }
            }
            return latest;
        }

        static long oddsOfAll(Committee c, int set) {
            long product = 1;
            for (int i = 0; i < c.articles && i < c.odds.length; i++) {
                if (holds(set, i)) {
                    product *= c.odds[i];
                }
            }
            return product;
        }

        /** Compares all LUCKS by one bottom: each ARTICLE outside counts as one that holds. */
        static int weakestOf(Committee c) {
            int found = NONE;
            long least = 0;
            for (int i = 0; i < c.articles; i++) {
                int set = c.allLeansOf(i) | 1 << i;
                long odds = oddsOfAll(c, set);
                for (int k = Integer.bitCount(set); k < c.articles; k++) {
                    odds *= ODDS_ALL;
                }
                if (found == NONE || odds < least) {
                    least = odds;
                    found = i;
                }
            }
            return found;
        }
    }

    /** The SESSIONS, a line for each STEP and each end. */
    private static final class Steps {
        boolean there;
        int told;
        int lines;
        private final int[] words = new int[LINES_MOST];
        private final int[] first = new int[LINES_MOST];
        private final int[] second = new int[LINES_MOST];
        /** The line of the end for a beginning, that of the beginning for an end. */
        private final int[] mates = new int[LINES_MOST];
        private final int[] open = new int[NESTED_MOST];
        int depth;

        void clear() {
            there = false;
            told = 0;
            lines = 0;
            depth = 0;
        }

        void takeFrom(Steps other) {
            there = other.there;
            told = other.told;
            lines = other.lines;
            System.arraycopy(other.words, 0, words, 0, LINES_MOST);
            System.arraycopy(other.first, 0, first, 0, LINES_MOST);
            System.arraycopy(other.second, 0, second, 0, LINES_MOST);
            System.arraycopy(other.mates, 0, mates, 0, LINES_MOST);
        }

        boolean isFull() {
            return told >= STEPS_MOST;
        }

        boolean isDeep() {
            return depth >= NESTED_MOST;
        }

        int wordAt(int line) {
            return at(words, line);
        }

        int firstAt(int line) {
            return at(first, line);
        }

        int secondAt(int line) {
            return at(second, line);
        }

        int mateAt(int line) {
            return at(mates, line);
        }

        private static int at(int[] row, int line) {
            return line >= 0 && line < row.length ? row[line] : NONE;
        }

        /** The line of a new STEP, NONE if there is no room. */
        int addStep(int word) {
            told++;
            return addLine(word);
        }

        private int addLine(int word) {
            int line = lines;
            if (line < 0 || line >= LINES_MOST) {
                return NONE;
            }
            words[line] = word;
            first[line] = 0;
            second[line] = 0;
            mates[line] = NONE;
            lines++;
            return line;
        }

        void setOperands(int line, int one, int two) {
            if (line >= 0 && line < LINES_MOST) {
                first[line] = one;
                second[line] = two;
            }
        }

        void openAt(int line) {
            if (depth >= 0 && depth < open.length) {
                open[depth] = line;
                depth++;
            }
        }

        void closeOne() {
            if (depth > 0 && depth <= open.length) {
                depth--;
                int begin = open[depth];
                int end = addLine(W_END);
                setMate(begin, end);
                setMate(end, begin);
            }
        }

        private void setMate(int line, int mate) {
            if (line >= 0 && line < mates.length) {
                mates[line] = mate;
            }
        }
    }

    /** One run of the SESSIONS of a COMMITTEE on itself. */
    private static final class Life {
        int done;
        private int missed;
        private int days;
        private int agreements;
        private int fallen;
        private boolean cutOff;
        private int state;
        private final int[] left = new int[LINES_MOST];

        void tellTo(int[] figures) {
            if (figures.length == LIVED_FIGURES) {
                figures[0] = missed;
                figures[1] = days;
                figures[2] = agreements;
                figures[3] = fallen;
                figures[4] = asNumber(cutOff);
            }
        }

        void run(Committee c, int seed) {
            done = 0;
            missed = 0;
            days = 0;
            agreements = 0;
            fallen = 0;
            cutOff = false;
            state = seed;
            int line = 0;
            for (int i = 0; i < FAR_MORE && line < c.steps.lines; i++) {
                int word = c.steps.wordAt(line);
                if (word == W_END) {
                    line = behindEnd(c.steps, line);
                } else if (done == LIVED_STEPS_MOST) {
                    cutOff = true;
                    return;
                } else {
                    done++;
                    switch (word) {
                        case W_STOP:
                            return;
                        case W_WHEN:
                            line = isSo(c, line) ? line : c.steps.mateAt(line);
                            break;
                        case W_LOOP:
                            beginLoop(c.steps, line);
                            break;
                        default:
                            missed += asNumber(!act(c, line));
                    }
                    line++;
                }
            }
        }

        private void beginLoop(Steps steps, int line) {
            if (line >= 0 && line < left.length) {
                left[line] = steps.firstAt(line);
            }
        }

        private int behindEnd(Steps steps, int line) {
            int begin = steps.mateAt(line);
            if (steps.wordAt(begin) != W_LOOP || begin < 0 || begin >= left.length) {
                return line + 1;
            }
            left[begin]--;
            return left[begin] > 0 ? begin + 1 : line + 1;
        }

        private boolean isSo(Committee c, int line) {
            int operand = c.steps.secondAt(line);
            switch (c.steps.firstAt(line)) {
                case W_SIGNS:
                    return c.doesSign(operand, c.seats);
                case W_AGREED:
                    return c.isAgreed(operand);
                case '<':
                    return c.worthOfAll(c.seats) < operand;
                case '>':
                    return c.worthOfAll(c.seats) > operand;
                default:
                    return c.worthOfAll(c.seats) == operand;
            }
        }

        /** Whether the STEP could be. */
        private boolean act(Committee c, int line) {
            int one = c.steps.firstAt(line);
            int two = c.steps.secondAt(line);
            switch (c.steps.wordAt(line)) {
                case W_SIT:
                    return c.seatOne(one, two);
                case W_RISE:
                    return c.raiseOne(one);
                case W_SWAP:
                    return c.swapTwo(one, two, c.seats);
                case W_TURN:
                    c.turnAll(one, c.seats);
                    return true;
                case W_DAY:
                    return spend(c, one);
                case W_AGREE:
                    return agreeTo(c, one);
                case W_WITHDRAW:
                    return letGo(c, one);
                default:
                    return seatAny(c);
            }
        }

        private boolean spend(Committee c, int many) {
            if (c.date > LAST_DAY - many) {
                return false;
            }
            days += many;
            agreements += c.passDays(many);
            return true;
        }

        private boolean agreeTo(Committee c, int article) {
            boolean could = c.agreeOn(article);
            agreements += asNumber(could);
            return could;
        }

        private boolean letGo(Committee c, int article) {
            int fell = c.letFall(article);
            fallen += fell;
            return fell > 0;
        }

        private boolean seatAny(Committee c) {
            if (c.parties == 0) {
                return false;
            }
            int party = draw(c.parties);
            int place = draw(c.places);
            return c.seatOne(party, place);
        }

        private int draw(int n) {
            state = (state * 3061 + 11279) % 65536;
            return n > 0 ? state / 8 % n : 0;
        }
    }

    /** The tape, the TOKENS of the text on it, one at a time, and the first FAULT along it. */
    private static final class Reader {
        private static final int THE_END = 0;
        private static final int WORD = 1;
        private static final int NUMBER = 2;
        private static final int SIGN = 3;
        private static final int STRANGE = 4;
        private static final int NAME_MOST = 8;
        private static final int DIGITS_MOST = 4;
        private static final int LETTER_BITS = 5;

        private final long[] keywords = new long[KEYWORD_COUNT];
        private final byte[] text = new byte[TAPE_MOST];
        int taped;
        private int length;
        private int place;
        private int kind;
        private int start;
        private int number;
        private int sign;
        /** The letters of a WORD as a number; 0 if they are too many for a NAME. */
        private long name;
        private boolean isName;
        /** Which of the KEYWORDS the TOKEN is, NONE if it is none. */
        int keyword;
        int fault;
        int faultPlace;

        Reader() {
            int count = 0;
            long code = 0;
            for (int i = 0; i < KEYWORDS.length() && count < keywords.length; i++) {
                char c = KEYWORDS.charAt(i);
                if (c == ' ') {
                    keywords[count] = code;
                    count++;
                    code = 0;
                } else {
                    code = withLetter(code, c);
                }
            }
        }

        private static long withLetter(long code, int letter) {
            return (code << LETTER_BITS) + letter - 'a' + 1;
        }

        /** The four bytes of a number, the highest first. */
        void add(int word) {
            for (int shift = 24; shift >= 0 && taped >= 0 && taped < text.length; shift -= 8) {
                text[taped] = (byte) (word >> shift);
                taped++;
            }
        }

        /** Begins with the first bytes of the tape, which is empty then. */
        void open(int newLength) {
            length = Math.min(newLength, taped);
            taped = 0;
            place = 0;
            fault = 0;
            faultPlace = NONE;
            next();
        }

        /** Only the first one counts, and what is no TOKEN is so wherever it stands. */
        void blame(int what) {
            if (fault == 0) {
                fault = kind == STRANGE ? 1 : what;
                faultPlace = start;
            }
        }

        boolean hasFault() {
            return fault != 0;
        }

        boolean goesOn() {
            return fault == 0 && kind != THE_END;
        }

        void next() {
            while (place < length && isBlank(here())) {
                place++;
            }
            start = place;
            keyword = NONE;
            name = 0;
            isName = false;
            if (place >= length) {
                kind = THE_END;
            } else if (isLetter(here())) {
                readWord();
            } else if (isDigit(here())) {
                readNumber();
            } else {
                readSign();
            }
        }

        /** The byte at the place; 0 is no blank, letter or digit. */
        private int here() {
            return place >= 0 && place < length && place < text.length ? text[place] : 0;
        }

        private static boolean isBlank(int c) {
            return c == ' ' || c == '\n';
        }

        private static boolean isLetter(int c) {
            return c >= 'a' && c <= 'z';
        }

        private static boolean isDigit(int c) {
            return c >= '0' && c <= '9';
        }

        private void readWord() {
            kind = WORD;
            long code = 0;
            while (place < length && isLetter(here())) {
                code = withLetter(code, here());
                place++;
            }
            if (place - start > NAME_MOST) {
                return;
            }
            name = code;
            for (int i = 0; i < keywords.length; i++) {
                if (keywords[i] == code) {
                    keyword = i;
                }
            }
            isName = keyword == NONE;
        }

        private void readNumber() {
            number = 0;
            while (place < length && isDigit(here())) {
                number = number * 10 + here() - '0';
                place++;
            }
            kind = place - start > DIGITS_MOST ? STRANGE : NUMBER;
        }

        private void readSign() {
            sign = here();
            place++;
            boolean known = sign == ';' || sign == '<' || sign == '>' || sign == '=';
            kind = known ? SIGN : STRANGE;
        }

        boolean isSign(char wanted) {
            return kind == SIGN && sign == wanted;
        }

        void passSign(char wanted) {
            if (!isSign(wanted)) {
                blame(2);
            }
            next();
        }

        /** One of < > =, as its character. */
        int takeCompares() {
            if (!isSign('<') && !isSign('>') && !isSign('=')) {
                blame(2);
            }
            int found = sign;
            next();
            return found;
        }

        void passKeyword(int wanted) {
            if (keyword != wanted) {
                blame(2);
            }
            next();
        }

        /** The NUMBER that stands here, still to be passed, so that its TOKEN can be blamed. */
        int numberWithin(int low, int high) {
            if (kind != NUMBER) {
                blame(2);
            } else if (!within(number, low, high)) {
                blame(4);
            }
            return hasFault() ? low : number;
        }

        int takeNumber(int low, int high) {
            int found = numberWithin(low, high);
            next();
            return found;
        }

        /** The PARTY whose NAME stands here, still to be passed. */
        int partyHere(Committee c) {
            int found = c.partyNamed(name);
            blameUnlessNamed(found);
            return hasFault() ? 0 : found;
        }

        int takeParty(Committee c) {
            int found = partyHere(c);
            next();
            return found;
        }

        int articleHere(Committee c) {
            int found = c.articleNamed(name);
            blameUnlessNamed(found);
            return hasFault() ? 0 : found;
        }

        int takeArticle(Committee c) {
            int found = articleHere(c);
            next();
            return found;
        }

        private void blameUnlessNamed(int found) {
            if (!isName) {
                blame(2);
            } else if (found == NONE) {
                blame(3);
            }
        }

        long takeNewName(Committee c) {
            long found = name;
            if (!isName) {
                blame(2);
            } else if (c.partyNamed(name) != NONE || c.articleNamed(name) != NONE) {
                blame(3);
            }
            next();
            return found;
        }
    }

    /** The text of a COMMITTEE; behind a FAULT what is read does not matter. */
    private static final class CommitteeText {
        static void readAll(Reader r, Committee c) {
            c.clear();
            for (int i = 0; i < TAPE_MOST && r.goesOn(); i++) {
                switch (r.keyword) {
                    case W_PLACES:
                        readPlaces(r, c);
                        break;
                    case W_CORNER:
                        readCorner(r, c);
                        break;
                    case W_PARTY:
                        readParty(r, c);
                        break;
                    case W_WANTS:
                        readWish(r, c, 1);
                        break;
                    case W_SHUNS:
                        readWish(r, c, -1);
                        break;
                    case W_ARTICLE:
                        readArticle(r, c);
                        break;
                    default:
                        r.blame(2);
                }
            }
        }

        private static void readPlaces(Reader r, Committee c) {
            if (c.places != 0) {
                r.blame(5);
                return;
            }
            r.next();
            c.places = r.takeNumber(PLACES_LEAST, PLACES_MOST);
            r.passSign(';');
        }

        private static void readCorner(Reader r, Committee c) {
            if (c.places == 0) {
                r.blame(2);
                return;
            }
            r.next();
            c.corners |= 1 << r.takeNumber(0, c.places - 1);
            r.passSign(';');
        }

        private static void readParty(Reader r, Committee c) {
            if (c.places == 0) {
                r.blame(2);
                return;
            }
            int party = c.parties;
            if (!within(party, 0, PARTIES_MOST - 1) || party >= c.places) {
                r.blame(6);
                return;
            }
            r.next();
            c.partyNames[party] = r.takeNewName(c);
            c.leasts[party] = 0;
            c.seats[party] = NONE;
            if (r.keyword == W_LEAST) {
                r.next();
                c.leasts[party] = r.takeNumber(0, LEAST_MOST);
            }
            if (r.keyword == W_AT) {
                r.next();
                c.seats[party] = takeFreePlace(r, c);
            }
            c.parties++;
            r.passSign(';');
        }

        private static int takeFreePlace(Reader r, Committee c) {
            int place = r.numberWithin(0, c.places - 1);
            if (c.sitterAt(place, c.seats) != NONE) {
                r.blame(5);
            }
            r.next();
            return place;
        }

        private static void readWish(Reader r, Committee c, int way) {
            int wish = c.wishes;
            if (!within(wish, 0, WISHES_MOST - 1)) {
                r.blame(6);
                return;
            }
            r.next();
            int party = r.takeParty(c);
            int kind = takeKind(r);
            c.whose[wish] = party;
            c.kinds[wish] = kind;
            c.whom[wish] = kind == KIND_CORNER ? NONE : takeOther(r, c, party);
            r.passKeyword(W_WORTH);
            c.worths[wish] = way * r.takeNumber(1, WORTH_MOST);
            c.wishes++;
            r.passSign(';');
        }

        private static int takeKind(Reader r) {
            int found = r.keyword;
            if (found != W_BESIDE && found != W_FACING && found != W_CORNER) {
                r.blame(2);
            }
            r.next();
            if (found == W_BESIDE) {
                return KIND_BESIDE;
            }
            return found == W_FACING ? KIND_FACING : KIND_CORNER;
        }

        private static int takeOther(Reader r, Committee c, int party) {
            int other = r.partyHere(c);
            if (other == party) {
                r.blame(5);
            }
            r.next();
            return other;
        }

        private static void readArticle(Reader r, Committee c) {
            int article = c.articles;
            if (!within(article, 0, ARTICLES_MOST - 1)) {
                r.blame(6);
                return;
            }
            r.next();
            c.articleNames[article] = r.takeNewName(c);
            r.passKeyword(W_TAKES);
            c.takes[article] = r.takeNumber(1, TAKES_MOST);
            c.odds[article] = ODDS_ALL;
            if (r.keyword == W_ODDS) {
                r.next();
                c.odds[article] = r.takeNumber(0, ODDS_ALL);
            }
            c.leansOn[article] = takeLeans(r, c);
            c.worked[article] = 0;
            c.articles++;
            r.passSign(';');
        }

        private static int takeLeans(Reader r, Committee c) {
            int set = 0;
            for (int i = 0; i < TAPE_MOST && r.goesOn() && !r.isSign(';'); i++) {
                int article = r.articleHere(c);
                if (holds(set, article)) {
                    r.blame(5);
                }
                set |= 1 << article;
                r.next();
            }
            return set;
        }
    }

    /** The text of SESSIONS; behind a FAULT what is read does not matter. */
    private static final class SessionText {
        static void readAll(Reader r, Committee c, Steps s) {
            s.clear();
            s.there = true;
            for (int i = 0; i < TAPE_MOST && r.goesOn(); i++) {
                if (r.keyword == W_END) {
                    readEnd(r, s);
                } else if (mayBegin(r, s)) {
                    int word = r.keyword;
                    int line = beginStep(r, s);
                    if (word == W_WHEN) {
                        readTest(r, c, s, line);
                    } else {
                        readOperands(r, c, s, line, word);
                    }
                    r.passSign(';');
                }
            }
            if (s.depth > 0) {
                r.blame(2);
            }
        }

        private static void readEnd(Reader r, Steps s) {
            if (s.depth == 0) {
                r.blame(2);
                return;
            }
            s.closeOne();
            r.next();
            r.passSign(';');
        }

        private static boolean opens(int keyword) {
            return keyword == W_WHEN || keyword == W_LOOP;
        }

        private static boolean mayBegin(Reader r, Steps s) {
            if (!isStepWord(r.keyword)) {
                r.blame(2);
            } else if (s.isFull()) {
                r.blame(6);
            } else if (opens(r.keyword) && s.isDeep()) {
                r.blame(7);
            }
            return !r.hasFault();
        }

        private static int beginStep(Reader r, Steps s) {
            int line = s.addStep(r.keyword);
            if (opens(r.keyword)) {
                s.openAt(line);
            }
            r.next();
            return line;
        }

        private static boolean isStepWord(int keyword) {
            return within(keyword, W_SIT, W_WHEN) || keyword == W_LOOP || keyword == W_STOP;
        }

        private static void readOperands(Reader r, Committee c, Steps s, int line, int word) {
            int one = 0;
            int two = 0;
            switch (word) {
                case W_SIT:
                    one = r.takeParty(c);
                    two = r.takeNumber(0, c.places - 1);
                    break;
                case W_RISE:
                    one = r.takeParty(c);
                    break;
                case W_SWAP:
                    one = r.takeParty(c);
                    two = r.takeParty(c);
                    break;
                case W_TURN:
                    one = r.takeNumber(0, 9);
                    break;
                case W_DAY:
                    one = r.takeNumber(1, 20);
                    break;
                case W_AGREE:
                case W_WITHDRAW:
                    one = r.takeArticle(c);
                    break;
                case W_LOOP:
                    one = r.takeNumber(1, 99);
                    break;
                default:
                    break;
            }
            s.setOperands(line, one, two);
        }

        private static void readTest(Reader r, Committee c, Steps s, int line) {
            int one = r.keyword;
            int two = 0;
            if (one == W_SIGNS) {
                r.next();
                two = r.takeParty(c);
            } else if (one == W_AGREED) {
                r.next();
                two = r.takeArticle(c);
            } else if (one == W_ALL) {
                r.next();
                one = r.takeCompares();
                two = r.takeNumber(0, 999);
            } else {
                r.blame(2);
            }
            s.setOperands(line, one, two);
        }
    }
}
