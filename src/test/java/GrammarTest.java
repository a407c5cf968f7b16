import java.util.Arrays;
import java.util.List;

/** Behind each beginning of a text each TOKEN in turn: which may stand there, and which FAULT the others are. */
public final class GrammarTest {
    private static final String KEYWORDS = "places corner party least at wants shuns beside facing worth article takes "
        + "odds sit rise swap turn day agree withdraw any when signs agreed all loop end stop";
    private static final String NUMBERS = "0 1 2 3 4 5 6 7 8 9 10 15 16 17 19 20 21 29 30 31 49 50 51 98 99 100 998 999 "
        + "1000 9999 0000 0001 0003 0030";
    private static final String NEW = "z abcdefgh partyp s corners";
    private static final String LONG = "abcdefghi agreedagreed placesparty";
    private static final String SIGNS = "; < > =";
    private static final String STRANGE = "00000 12345 00001 ! A , : P - ~ \r \t \0 \u00c8";
    private static final String PARTIES = "p q";
    private static final String ARTICLES = "x y";
    private static final String STEPS = "sit rise swap turn day agree withdraw any when loop stop";
    private static final String BASE = "places 4;party p least 2 at 0;party q;article x takes 2;article y takes 3;";

    /** Whether sessions() is asked, of the COMMITTEE of BASE, or committee(). */
    private static boolean sessions;

    public static void main(String[] args) {
        sessions = false;
        parts();
        partsOfPlacesAndParties();
        partsOfWishes();
        partsOfArticles();
        sessions = true;
        stepsByThemselves();
        stepsOfParties();
        stepsOfNumbersAndArticles();
        whens();
        loops();
        theLastSteps();
        Check.close("GrammarTest");
    }

    private static List<String> all(String tokens) {
        return Arrays.asList(tokens.split(" "));
    }

    /** The NUMBERS from low to high. */
    private static String from(int low, int high) {
        StringBuilder s = new StringBuilder();
        for (String n : all(NUMBERS)) {
            int number = Integer.parseInt(n);
            s.append(number >= low && number <= high ? n + " " : "");
        }
        return s.toString();
    }

    /** The TOKENS in may can stand behind the text; those behind a digit in others are that FAULT; all else is 2, or 1. */
    private static void behind(String text, String may, String... others) {
        for (String group : new String[] {KEYWORDS, NUMBERS, NEW, LONG, PARTIES, ARTICLES, SIGNS}) {
            for (String token : all(group)) {
                int due = group.equals(LONG) ? 2 : kindOf(token, may, others);
                one(text, token, due);
            }
        }
        for (String token : all(STRANGE)) {
            one(text, token, 1);
        }
    }

    private static int kindOf(String token, String may, String... others) {
        for (String other : others) {
            if (all(other).subList(1, all(other).size()).contains(token)) {
                return other.charAt(0) - '0';
            }
        }
        return all(may).contains(token) ? 0 : 2;
    }

    private static int read(StandTable x, String text) {
        return sessions ? Check.sessions(x, text) : Check.committee(x, text);
    }

    private static void one(String text, String token, int due) {
        String whole = text + token;
        StandTable x = sessions ? Check.table(BASE, null) : new StandTable();
        int answer = read(x, whole);
        if (due == 0 && token.equals(";") && !isOpen(whole)) {
            Check.due("'" + whole + "' is taken", answer >= 0, true);
            faults(x, whole, 0, 0, -1);
        } else {
            Check.due("'" + whole + "'", answer, -1);
            faults(x, whole, 9, due == 0 ? 2 : due, due == 0 ? whole.length() : text.length());
        }
    }

    private static void faults(StandTable x, String whole, int status, int kind, int place) {
        Check.due("status() of '" + whole + "'", x.status(), status);
        Check.due("fault(0) of '" + whole + "'", x.fault(0), kind);
        Check.due("fault(1) of '" + whole + "'", x.fault(1), place);
    }

    /** Whether a when or a loop of the text has no end yet. */
    private static boolean isOpen(String text) {
        int depth = 0;
        for (String step : text.split(";")) {
            String word = step.trim().split(" ")[0];
            depth += word.equals("when") || word.equals("loop") ? 1 : word.equals("end") ? -1 : 0;
        }
        return sessions && depth > 0;
    }

    // ---- where a NAME must stand

    private static void newName(String text) {
        behind(text, NEW, "3 " + PARTIES + " " + ARTICLES);
    }

    private static void party(String text) {
        behind(text, PARTIES, "3 " + NEW + " " + ARTICLES);
    }

    private static void article(String text) {
        behind(text, ARTICLES, "3 " + NEW + " " + PARTIES);
    }

    private static void number(String text, int low, int high) {
        behind(text, from(low, high), "4 " + from(0, low - 1) + from(high + 1, 9999));
    }

    private static void close(String text) {
        behind(text, ";");
    }

    // ---- COMMITTEES

    private static void parts() {
        behind("", "places wants shuns article");
        behind("places 5;", "corner party wants shuns article", "5 places");
        behind(BASE, "corner party wants shuns article", "5 places");
        behind("places 6;party a;party b;party c;party d;party e;", "corner wants shuns article", "5 places", "6 party");
        behind("places 3;party a;party b;party c;", "corner wants shuns article", "5 places", "6 party");
        behind(BASE + "wants p corner worth 1;".repeat(20), "corner party article", "5 places", "6 wants shuns");
        behind(BASE + "article a takes 1;article b takes 1;article c takes 1;article d takes 1;article e takes 1;"
            + "article f takes 1;", "corner party wants shuns", "5 places", "6 article");
        behind("article a takes 1;", "places wants shuns article");
    }

    private static void partsOfPlacesAndParties() {
        number("places ", 3, 6);
        close("places 3 ");
        number(BASE + "corner ", 0, 3);
        close(BASE + "corner 3 ");
        newName(BASE + "party ");
        behind(BASE + "party z ", "least at ;");
        number(BASE + "party z least ", 0, 50);
        behind(BASE + "party z least 50 ", "at ;");
        String[] where = {"party z at ", "party z least 1 at "};
        for (String w : where) {
            behind(BASE + w, from(1, 3), "5 0 0000", "4 " + from(4, 9999));
            close(BASE + w + "3 ");
        }
    }

    private static void partsOfWishes() {
        for (String way : new String[] {"wants ", "shuns "}) {
            party(BASE + way);
            behind(BASE + way + "q ", "beside facing corner");
            for (String kind : new String[] {"beside ", "facing "}) {
                behind(BASE + way + "q " + kind, "p", "5 q", "3 " + NEW + " " + ARTICLES);
                behind(BASE + way + "q " + kind + "p ", "worth");
                number(BASE + way + "q " + kind + "p worth ", 1, 9);
                close(BASE + way + "q " + kind + "p worth 9 ");
            }
            behind(BASE + way + "p corner ", "worth");
            number(BASE + way + "p corner worth ", 1, 9);
            close(BASE + way + "p corner worth 1 ");
        }
    }

    private static void partsOfArticles() {
        newName(BASE + "article ");
        behind(BASE + "article z ", "takes");
        number(BASE + "article z takes ", 1, 30);
        String none = "3 " + NEW + " " + PARTIES;
        behind(BASE + "article z takes 30 ", "odds ; " + ARTICLES, none);
        number(BASE + "article z takes 30 odds ", 0, 16);
        behind(BASE + "article z takes 30 odds 16 ", "; " + ARTICLES, none);
        behind(BASE + "article z takes 30 odds 16 y ", "; x", "5 y", none);
        behind(BASE + "article z takes 30 y ", "; x", "5 y", none);
        behind(BASE + "article z takes 30 y x ", ";", "5 y x", none);
    }

    // ---- SESSIONS

    private static void stepsByThemselves() {
        behind("", STEPS);
        behind("turn 0;", STEPS);
        behind("loop 1;end;", STEPS);
        close("any ");
        close("stop ");
    }

    private static void stepsOfParties() {
        party("sit ");
        number("sit q ", 0, 3);
        close("sit q 3 ");
        party("rise ");
        close("rise p ");
        party("swap ");
        party("swap p ");
        close("swap p q ");
        close("swap p p ");
    }

    private static void stepsOfNumbersAndArticles() {
        number("turn ", 0, 9);
        close("turn 9 ");
        number("day ", 1, 20);
        close("day 20 ");
        article("agree ");
        close("agree y ");
        article("withdraw ");
        close("withdraw x ");
    }

    private static void whens() {
        behind("when ", "signs agreed all");
        party("when signs ");
        close("when signs q ");
        article("when agreed ");
        close("when agreed y ");
        behind("when all ", "< > =");
        for (String compares : new String[] {"<", ">", "="}) {
            number("when all " + compares + " ", 0, 999);
            close("when all " + compares + " 999 ");
        }
        behind("when signs q;", STEPS + " end");
        close("when signs q;end ");
    }

    private static void loops() {
        number("loop ", 1, 99);
        close("loop 99 ");
        behind("loop 99;", STEPS + " end");
        close("loop 99;end ");
        String within = "sit rise swap turn day agree withdraw any stop end";
        behind("loop 1;when signs p;", STEPS + " end");
        behind("loop 1;when signs p;loop 2;", within, "7 when loop");
        behind("when all = 1;when signs p;when agreed x;any;", within, "7 when loop");
        behind("loop 1;loop 1;loop 1;end;", STEPS + " end");
        behind("loop 1;loop 1;loop 1;end;end;end;", STEPS);
    }

    /** A 31st STEP, where it stands within three others, too; an end is none. */
    private static void theLastSteps() {
        String any = "any;";
        behind(any.repeat(29), STEPS);
        behind(any.repeat(30), "", "6 " + STEPS);
        behind("loop 1;" + any.repeat(28), STEPS + " end");
        behind("loop 1;" + any.repeat(29), "end", "6 " + STEPS);
        behind("loop 1;loop 1;loop 1;" + any.repeat(27), "end", "6 " + STEPS);
        behind("loop 1;" + any.repeat(29) + "end;", "", "6 " + STEPS);
    }
}
