import java.io.IOException;
import java.lang.reflect.Constructor;
import java.lang.reflect.Field;
import java.lang.reflect.Method;
import java.lang.reflect.Modifier;
import java.nio.charset.StandardCharsets;
import java.nio.file.Files;
import java.nio.file.Path;
import java.util.ArrayList;
import java.util.List;
import java.util.Set;
import java.util.TreeSet;
import java.util.regex.Matcher;
import java.util.regex.Pattern;

/** Rules of LANGUAGE.md that can be looked at: the face, what the source may not hold, sizes, and that no call makes objects. */
public final class NinthDayHoodedLanguage {
    private static final Path SOURCE = Path.of("src/main/java/NinthDayHooded.java");

    private static final String[] FACE = {
        "int sign(int)", "boolean end(int)", "int town()", "int trust(int)", "int likes(int)", "int rule()", "int of(int,int)",
        "int trusts(int,int)", "int lessons(int,int)", "int set(int,int,int)", "int sheet(int,int,int,int)", "int cost(int,int)",
        "int guides(int)", "int lonely(int)", "int hardest()", "int day()", "int days(int)", "int season()", "int undo()",
        "int led(int,int)", "int leads(int)", "int ahead(int)", "int learns(int,int)", "int task(int,int)", "int done()",
        "int manned(int)", "int bare()", "int blindest()", "int mends()", "int mend()", "int newcomer(int)", "int needed()",
        "int gain(int,int)", "int ferry(int,int,int)", "int wish(int,int,int)", "int forget()", "int met()", "int please()",
        "int colours()", "int friend(int)", "boolean swap(int,int)", "int ring()", "int turn()", "int rests()", "int liked()",
        "int theft(int,int)", "int pardon()", "int suspects(int)", "int thief()", "int witness(int,int)", "int dark(int,int,int)",
        "int comes(int)", "boolean keep(int)", "boolean again(int)", "int count(int)", "int row(int)"};

    private static final String[] FORBIDDEN = {"->", "::", "\\bfinally\\b", "\\bsynchronized\\b", "\\bassert\\b", "\\btry\\b", "\\bcatch\\b",
        "Exact\\b", "\\bprotected\\b", "\\bString\\b", "\\bObject\\b", "\\bSystem\\.(?!arraycopy)", "\\bdouble\\b", "\\bfloat\\b",
        "\\bwhile \\(true\\)", "for \\(;", "\\bthis\\.", "\\bnull\\b", "Math\\.(?!min\\(|max\\(|abs\\(|floorMod\\()",
        "Integer\\.(?!bitCount\\()", "Arrays\\.(?!fill\\()"};

    private static int wrong = 0;

    public static void main(String[] args) throws IOException {
        face();
        insideClasses();
        List<String> lines = Files.readAllLines(SOURCE, StandardCharsets.US_ASCII);
        words(lines);
        makings(lines);
        methods(lines);
        System.out.println(wrong == 0 ? "the language's rules hold" : wrong + " rules are broken");
        if (wrong != 0) {
            System.exit(1);
        }
    }

    private static void rule(boolean holds, String what) {
        if (!holds) {
            wrong++;
            System.out.println("broken: " + what);
        }
    }

    private static String told(Method m) {
        StringBuilder b = new StringBuilder(m.getReturnType().getName()).append(' ').append(m.getName()).append('(');
        for (Class<?> type : m.getParameterTypes()) {
            b.append(b.charAt(b.length() - 1) == '(' ? "" : ",").append(type.getName());
        }
        return b.append(')').toString();
    }

    private static void face() {
        Class<?> c = NinthDayHooded.class;
        rule(Modifier.isFinal(c.getModifiers()) && Modifier.isPublic(c.getModifiers()), "the class is public and final");
        Set<String> open = new TreeSet<>();
        for (Method m : c.getDeclaredMethods()) {
            if (!Modifier.isPrivate(m.getModifiers())) {
                rule(Modifier.isPublic(m.getModifiers()) && !Modifier.isStatic(m.getModifiers()), "1: " + m);
                open.add(told(m));
            }
        }
        rule(open.equals(new TreeSet<>(List.of(FACE))), "1: the face is " + open);
        for (Field f : c.getDeclaredFields()) {
            rule(Modifier.isPrivate(f.getModifiers()) || f.getName().equals("NONE"), "1: " + f);
        }
        Constructor<?>[] makers = c.getDeclaredConstructors();
        rule(makers.length == 1 && makers[0].getParameterCount() == 0 && Modifier.isPublic(makers[0].getModifiers()), "1: one constructor");
    }

    private static void insideClasses() {
        Set<String> names = new TreeSet<>();
        for (Method m : NinthDayHooded.class.getDeclaredMethods()) {
            if (Modifier.isPublic(m.getModifiers())) {
                names.add(m.getName());
            }
        }
        List<Class<?>> all = new ArrayList<>(List.of(NinthDayHooded.class.getDeclaredClasses()));
        rule(all.size() + 1 <= 12, "11: at most twelve classes");
        for (Class<?> c : all) {
            rule(Modifier.isStatic(c.getModifiers()) && Modifier.isPrivate(c.getModifiers()), "1: " + c);
        }
        all.add(NinthDayHooded.class);
        for (Class<?> c : all) {
            for (Method m : c.getDeclaredMethods()) {
                rule(Modifier.isPublic(m.getModifiers()) || !names.contains(m.getName()), "1: a private method bears a public name: " + m);
                rule(m.getParameterCount() <= 7, "11: seven parameters: " + m);
            }
            int own = 0;
            for (Field f : c.getDeclaredFields()) {
                boolean fixed = Modifier.isStatic(f.getModifiers());
                rule(!fixed || Modifier.isFinal(f.getModifiers()), "5: " + f);
                own += fixed ? 0 : 1;
            }
            rule(own <= 20, "11: some twenty fields: " + c);
        }
    }

    private static String withoutComment(String line) {
        String bare = line.trim();
        if (bare.startsWith("/*") || bare.startsWith("*")) {
            return "";
        }
        return line.contains("//") ? line.substring(0, line.indexOf("//")) : line;
    }

    private static void words(List<String> lines) {
        for (int i = 0; i < lines.size(); i++) {
            String line = withoutComment(lines.get(i));
            for (String word : FORBIDDEN) {
                rule(!Pattern.compile(word).matcher(line).find(), "line " + (i + 1) + " holds " + word);
            }
            if (line.startsWith("import")) {
                rule(line.equals("import java.util.Arrays;") || line.equals("import java.util.NoSuchElementException;"), line);
            }
            rule(lines.get(i).length() <= 130, "line " + (i + 1) + " is long");
        }
    }

    /** All that is made is made with the object; a call makes an exception at most. */
    private static void makings(List<String> lines) {
        Pattern field = Pattern.compile("^ +private final [A-Za-z]+(\\[\\])? [a-zA-Z]+ = new .*;$");
        Pattern maker = Pattern.compile("^ {16}(before|kept)\\[i\\] = new State\\(\\);$");
        for (int i = 0; i < lines.size(); i++) {
            String line = withoutComment(lines.get(i));
            if (line.contains("new ")) {
                boolean made = field.matcher(line).matches() || maker.matcher(line).matches();
                rule(made || line.trim().equals("throw new NoSuchElementException();"), "12: line " + (i + 1) + " makes something");
            }
        }
    }

    private static void methods(List<String> lines) {
        Pattern start = Pattern.compile("^( +)(public|private) [^=;]*\\) .*\\{$");
        for (int i = 0; i < lines.size(); i++) {
            Matcher m = start.matcher(lines.get(i));
            if (m.matches()) {
                int end = i;
                while (end < lines.size() && !lines.get(end).equals(m.group(1) + "}")) {
                    end++;
                }
                rule(end - i <= 60, "11: the method at line " + (i + 1) + " is long");
            }
        }
    }
}
