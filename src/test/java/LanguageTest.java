import java.io.IOException;
import java.lang.reflect.Constructor;
import java.lang.reflect.Field;
import java.lang.reflect.Method;
import java.lang.reflect.Modifier;
import java.nio.file.Files;
import java.nio.file.Path;
import java.util.ArrayList;
import java.util.Arrays;
import java.util.List;
import java.util.Set;
import java.util.TreeSet;
import java.util.regex.Matcher;
import java.util.regex.Pattern;

/** The face of the class, and those rules of ../shared/LANGUAGE.md that a look at the source can tell. */
public final class LanguageTest {
    private static final String FACE = "int status();long top();long bottom();"
        + "boolean tray(int,int,int);boolean write(int,int,long);long read(int,int);"
        + "boolean pour(int,int,int,int,int);int feed(int,int,int,int,int);int committee(int);"
        + "int sessions(int);int fault(int);int told(int);int who(int);int placeOf(int);int least(int);"
        + "int wish(int,int);int article(int,int);int beside(int,int);int facing(int,int);int worth(int);"
        + "int allWorth();int signs(int);int dearest(int);int sit(int,int);int rise(int);"
        + "boolean swap(int,int);int turn(int);int day(int);int agree(int);int withdraw(int);"
        + "boolean insist(int,int);boolean value(int,int);boolean carve(int,boolean);int seatings();"
        + "int good();int classes();int goodAt(int);int best();int bestAt(int);int mostSign();int quarrel();"
        + "int pleased(int);int mostFor(int);int signsIn(int);int seatBest();int fish();int leastFish();"
        + "int bestSwap();int bestTurn();int signsBy(int,int);int game(int,int,int);int moveOf(int,int,int);"
        + "int leans(int);int falls(int);int keystone();int orders();int soonest(int);int chain(int);"
        + "int agreedIn(int);boolean luck(int);int weakest();int copySeats(int);int seatBy(int);int live(int);"
        + "int lived(int);boolean mean(int,int);int mark();int undo();";

    public static void main(String[] args) throws IOException {
        face();
        members();
        source(Files.readString(Path.of(System.getProperty("standtable.source",
            "src/main/java/StandTable.java"))));
        Check.close("LanguageTest");
    }

    private static String shape(Method m) {
        StringBuilder s = new StringBuilder(m.getReturnType().getName()).append(' ').append(m.getName()).append('(');
        Class<?>[] types = m.getParameterTypes();
        for (int i = 0; i < types.length; i++) {
            s.append(i == 0 ? "" : ",").append(types[i].getName());
        }
        return s.append(')').toString();
    }

    private static void face() {
        Set<String> due = new TreeSet<>(Arrays.asList(FACE.split(";")));
        Set<String> found = new TreeSet<>();
        for (Method m : StandTable.class.getDeclaredMethods()) {
            if (!Modifier.isPrivate(m.getModifiers())) {
                Check.due(m + " is public and not static", m.getModifiers(), Modifier.PUBLIC);
                found.add(shape(m));
            }
        }
        Check.due("promises of methods", due.size(), 68);
        Check.due("the face is " + found, found.equals(due), true);
        for (Constructor<?> c : StandTable.class.getDeclaredConstructors()) {
            Check.due(c + " is public", Modifier.isPublic(c.getModifiers()), true);
            Check.due(c + " takes nothing", c.getParameterCount(), 0);
        }
        for (Field f : StandTable.class.getDeclaredFields()) {
            boolean none = f.getName().equals("NONE");
            Check.due(f + " is private, or NONE", Modifier.isPrivate(f.getModifiers()), !none);
        }
        Check.due("public and final", StandTable.class.getModifiers(), Modifier.PUBLIC | Modifier.FINAL);
    }

    private static void members() {
        List<Class<?>> all = new ArrayList<>(Arrays.asList(StandTable.class.getDeclaredClasses()));
        Check.due("classes within", all.size() <= 12, true);
        Set<String> face = new TreeSet<>();
        for (Method m : StandTable.class.getDeclaredMethods()) {
            if (Modifier.isPublic(m.getModifiers())) {
                face.add(m.getName());
            }
        }
        all.add(StandTable.class);
        for (Class<?> c : all) {
            Check.due(c + " is static", c == StandTable.class || Modifier.isStatic(c.getModifiers()), true);
            int fields = 0;
            for (Field f : c.getDeclaredFields()) {
                Check.due(f + " is final if static",
                    !Modifier.isStatic(f.getModifiers()) || Modifier.isFinal(f.getModifiers()), true);
                fields += Modifier.isStatic(f.getModifiers()) ? 0 : 1;
            }
            Check.due("fields of " + c, fields <= 22, true);
            for (Method m : c.getDeclaredMethods()) {
                Check.due(m + " takes at most seven", m.getParameterCount() <= 7, true);
                boolean publicOne = c == StandTable.class && Modifier.isPublic(m.getModifiers());
                Check.due(m + " bears no name of the face", publicOne || !face.contains(m.getName()), true);
            }
        }
    }

    private static void source(String whole) {
        String code = whole.replaceAll("(?s)/\\*.*?\\*/", "").replaceAll("//[^\n]*", "")
            .replaceAll("\"[^\"\n]*\"", "\"\"").replaceAll("'[^'\n]+'", "' '");
        for (String word : new String[] {"throw", "throws", "try", "catch", "finally", "synchronized", "assert",
                "import", "package", "protected", "volatile", "transient", "native", "instanceof", "var",
                "Object", "Thread", "Random", "Exception", "yield"}) {
            Check.due("'" + word + "' stands in the source", found("\\b" + word + "\\b", code), 0);
        }
        Check.due("a lambda or an arrow", found("->", code), 0);
        Check.due("a method reference", found("::", code), 0);
        Check.due("an exact function", found("Exact\\b", code), 0);
        Check.due("signs beyond 127", found("[^\\x00-\\x7f]", whole), 0);
        Matcher m = Pattern.compile("\\b(System|Math|Integer|Long|Arrays|String)\\.(\\w+)").matcher(code);
        while (m.find()) {
            boolean listed = Arrays.asList("System.arraycopy", "Math.abs", "Math.max", "Math.min",
                "Integer.bitCount").contains(m.group());
            Check.due(m.group() + " is listed", listed, true);
        }
        for (String line : code.split("\n")) {
            boolean made = Pattern.compile("\\bnew \\w").matcher(line).find();
            boolean inField = line.contains(" = new ");
            Check.due("made but once an object: " + line.trim(), !made || inField, true);
        }
        loops(code);
        lengths(code);
    }

    private static int found(String pattern, String text) {
        Matcher m = Pattern.compile(pattern).matcher(text);
        int n = 0;
        while (m.find()) {
            n++;
        }
        return n;
    }

    private static void loops(String code) {
        Check.due("while (true)", found("while \\(true\\)", code), 0);
        Check.due("for (;;)", found("for \\(\\s*;[^;]*;", code) + found("for \\([^;]*;\\s*;", code), 0);
    }

    /** The longest method, by the lines between its head and the brace in the head's column. */
    private static void lengths(String code) {
        Matcher m = Pattern.compile("(?m)^( {4}| {8})\\S[^;=\n]*\\([^;]*?\\) \\{\n((?s).*?)\n\\1\\}").matcher(code);
        int methods = 0;
        while (m.find()) {
            methods++;
            Check.due("lines of " + m.group().split("\n")[0].trim(), m.group(2).split("\n").length <= 60, true);
        }
        Check.due("methods found", methods > 150, true);
    }
}
