import java.lang.reflect.InvocationTargetException;
import java.lang.reflect.Method;
import java.lang.reflect.Modifier;
import java.util.ArrayList;
import java.util.Arrays;
import java.util.Collections;
import java.util.Comparator;
import java.util.List;
import java.util.NoSuchElementException;
import java.util.Random;
import java.util.regex.Pattern;

/**
 * Random runs on the class and on a slow model of the document, which tries everything where the class is clever;
 * every answer, every number of the row and all that can be asked must be the same.
 */
public final class NinthDayHoodedAgainstModel {
    private static final int RUNS = 140;
    private static final int SCENES = 240;
    private static final int CALLS = 300;

    /** What a run asks most. */
    private static final String[][] THEMES = {
        {"guides", "lonely", "hardest", "friend", "cost", "set", "swap"},
        {"day", "days", "ahead", "learns", "led", "leads", "undo", "keep", "again", "lessons", "set", "comes"},
        {"task", "task", "task", "manned", "bare", "mends", "mend", "newcomer", "needed", "gain", "ferry", "set", "blindest"},
        {"wish", "wish", "wish", "met", "please", "colours", "set", "task"},
        {"ring", "turn", "rests", "liked", "swap", "undo"},
        {"theft", "theft", "suspects", "thief", "witness", "dark", "set", "comes"},
    };

    /** Calls that bring a run back to little: they are asked less often. */
    private static final List<String> SELDOM = List.of("forget", "pardon", "done", "sheet", "comes");

    public static void main(String[] args) throws Exception {
        long seed = args.length > 0 ? Long.parseLong(args[0]) : 20261118L;
        int runs = args.length > 1 ? Integer.parseInt(args[1]) : RUNS;
        for (int run = 0; run < runs; run++) {
            if (!new Run(seed + run).goes(run)) {
                System.exit(1);
            }
        }
        int scenes = args.length > 2 ? Integer.parseInt(args[2]) : SCENES;
        for (int scene = 0; scene < scenes; scene++) {
            if (!new Run(-seed - scene).plays(scene)) {
                System.exit(1);
            }
        }
        System.out.println(runs + " random runs and " + scenes + " scenes are as the model's");
    }

    private static final class Run {
        private final Random random;
        private final NinthDayHooded real = new NinthDayHooded();
        private final Model model = new Model();
        private final List<String> told = new ArrayList<>();
        private final List<Method> methods = new ArrayList<>();
        private String[] theme = {};

        Run(long seed) {
            random = new Random(seed);
            for (Method m : NinthDayHooded.class.getDeclaredMethods()) {
                if (Modifier.isPublic(m.getModifiers())) {
                    methods.add(m);
                }
            }
            methods.sort(Comparator.comparing(Method::getName));
        }

        boolean goes(int run) throws Exception {
            boolean crowded = run % 3 == 0;
            theme = THEMES[run % 7 % THEMES.length];
            for (int i = 0; i < CALLS; i++) {
                if (!step(i, crowded) || !sameRow() || i % 25 == 24 && !sameState()) {
                    return differs("run " + run);
                }
            }
            return true;
        }

        private boolean differs(String what) {
            System.out.println(what + " differs at its last row:");
            for (String line : told.subList(Math.max(0, told.size() - 60), told.size())) {
                System.out.println("  " + line);
            }
            return false;
        }

        /** A short run that is set up for one kind of question. */
        boolean plays(int scene) throws Exception {
            boolean good;
            switch (scene % 4) {
                case 0:
                    good = playsGuides();
                    break;
                case 1:
                    good = playsTasks();
                    break;
                case 2:
                    good = playsWishes();
                    break;
                default:
                    good = playsRings();
                    break;
            }
            return good && sameState() || differs("scene " + scene);
        }

        private boolean asks(String call, int... args) throws Exception {
            return same(call, args) && sameRow();
        }

        private boolean settles(int n, int hoods, int tradesOneIn) throws Exception {
            for (int i = 0; i < n; i += 3) {
                StringBuilder b = new StringBuilder();
                for (int p = i; p < Math.min(n, i + 3); p++) {
                    b.append(p > i ? ";" : "").append(random.nextInt(hoods)).append(random.nextInt(9));
                    for (char c = 'p'; c <= 'u'; c++) {
                        b.append(random.nextInt(tradesOneIn) == 0 ? String.valueOf(c) : "");
                    }
                }
                if (!type(b.toString()) || !same("town")) {
                    return false;
                }
            }
            return true;
        }

        private boolean playsGuides() throws Exception {
            int n = 6 + random.nextInt(4);
            boolean good = settles(n, 1 + random.nextInt(4), 3);
            int trusting = 1 + random.nextInt(4);
            for (int p = 0; p < n; p++) {
                StringBuilder b = new StringBuilder();
                for (int q = 0; q < n; q++) {
                    b.append(random.nextInt(trusting) == 0 ? random.nextInt(10) : 0);
                }
                good = good && type(b.toString()) && same("trust", p);
            }
            if (random.nextInt(3) > 0) {
                good = good && type(text(goodRule(3), "t")) && same("rule");
            }
            for (int d = 0; d < 5; d++) {
                good = good && asks("guides", d) && asks("lonely", d);
            }
            good = good && asks("hardest") && asks("friend", random.nextInt(n)) && asks("ahead", 20);
            for (int t = 0; t < 6; t++) {
                good = good && asks("learns", random.nextInt(n), t);
            }
            return good && asks("days", 35) && asks("undo");
        }

        private boolean playsTasks() throws Exception {
            int n = 4 + random.nextInt(6);
            boolean good = settles(n, 1 + random.nextInt(3), 1 + random.nextInt(3));
            int tasks = 1 + random.nextInt(4);
            for (int i = 0; i < tasks; i++) {
                good = good && same("task", random.nextInt(6), random.nextInt(4) > 0 ? 1 : 1 + random.nextInt(3));
                good = good && asks("bare") && asks("mends") && asks("needed") && asks("newcomer", random.nextInt(64));
                for (int p = 0; p < n - 1; p++) {
                    good = good && asks("gain", p, p + 1) && asks("manned", p);
                }
            }
            return good && asks("mend") && asks("bare") && asks("undo");
        }

        private boolean playsWishes() throws Exception {
            int n = 4 + random.nextInt(6);
            boolean good = settles(n, 1 + random.nextInt(9), 2) && same("task", 0, 1 + random.nextInt(3));
            int kin = Math.min(n, 5);
            int alike = random.nextInt(3);
            for (int i = 0; i < kin * (kin - 1); i++) {
                int one = n - 1 - i % kin;
                int other = n - 1 - (i + 1 + i / kin) % kin;
                boolean apart = alike > 0 || random.nextInt(5) > 0;
                // Each pair once, so that five who all wish two stand among twelve wishes.
                if (one < other) {
                    good = good && same("wish", one, other, apart ? 0 : 1);
                    good = good && asks("colours") && asks("met") && asks("please");
                }
            }
            for (int i = 0; i < 3; i++) {
                good = good && same("wish", random.nextInt(n), random.nextInt(n), random.nextInt(2));
                good = good && asks("colours") && asks("met") && asks("please");
            }
            return good;
        }

        private boolean playsRings() throws Exception {
            int n = 3 + random.nextInt(7);
            boolean good = settles(n, 9, 2);
            List<Integer> next = new ArrayList<>();
            for (int p = 0; p < n; p++) {
                next.add(p);
            }
            Collections.shuffle(next, random);
            for (int p = 0; p < n; p++) {
                StringBuilder b = new StringBuilder("000000000");
                b.setCharAt(next.get(p), (char) ('1' + random.nextInt(9)));
                if (random.nextInt(4) == 0) {
                    b.setCharAt(random.nextInt(9), (char) ('1' + random.nextInt(9)));
                }
                good = good && same("set", p, 0, p) && type(b.toString()) && same("likes", p);
            }
            good = good && asks("rests") && asks("liked");
            for (int i = 0; i < 4; i++) {
                good = good && asks("ring") && asks("turn") && asks("liked");
            }
            return good && asks("undo");
        }

        private boolean step(int i, boolean crowded) throws Exception {
            if (i == 0 || i == 4 && crowded) {
                return type(goodTown(crowded ? 4 + random.nextInt(2) : 1 + random.nextInt(5))) && same("town");
            }
            int kind = random.nextInt(100);
            if (kind < 4) {
                return type(text(goodTown(1 + random.nextInt(3)), "0123456789pqrstu;;")) && same("town");
            }
            if (kind < 9) {
                return type(text(digits(model.people.size()), "0123456789x")) && same("trust", person());
            }
            if (kind < 16) {
                return type(text(digits(9), "0123456789x")) && same("likes", person());
            }
            if (kind < 24) {
                return type(text(goodRule(3), "tukrdij0123456789+-*/<>=()")) && same("rule");
            }
            if (kind < 30) {
                return type(text(goodSeason(), "dhsmabcdefghi0123456789;")) && same("season");
            }
            Method m = anyCall();
            int[] args = new int[m.getParameterCount()];
            for (int k = 0; k < args.length; k++) {
                args[k] = argument(m.getName(), k);
            }
            return same(m.getName(), args);
        }

        private Method anyCall() {
            Method m = methods.get(random.nextInt(methods.size()));
            boolean themed = random.nextInt(3) > 0;
            String name = theme[random.nextInt(theme.length)];
            for (Method other : methods) {
                m = themed && other.getName().equals(name) ? other : m;
            }
            return SELDOM.contains(m.getName()) && random.nextInt(6) > 0 ? anyCall() : m;
        }

        private int person() {
            int n = Math.max(1, model.people.size());
            return random.nextInt(12) == 0 ? random.nextInt(12) - 1 : random.nextInt(n);
        }

        private int argument(String call, int k) {
            if (random.nextInt(60) == 0) {
                return random.nextBoolean() ? Integer.MIN_VALUE : Integer.MAX_VALUE;
            }
            switch (call) {
                case "sign":
                    return random.nextInt();
                case "end":
                    return random.nextInt(8) - 1;
                case "of":
                    return k == 0 ? person() : random.nextInt(8) - 1;
                case "set":
                    return k == 0 ? person() : k == 1 ? random.nextInt(4) : random.nextInt(3) == 0 ? random.nextInt(66) - 1
                        : random.nextInt(9);
                case "sheet":
                    return k == 0 ? random.nextInt(5) : k == 1 ? random.nextInt(12) - 1
                        : random.nextInt(4) == 0 ? random.nextInt() : random.nextInt(9);
                case "guides":
                case "lonely":
                    return random.nextInt(10) == 0 ? 995 + random.nextInt(8) : random.nextInt(12) - 1;
                case "days":
                case "ahead":
                    return random.nextInt(4) == 0 ? random.nextInt(43) - 1 : random.nextInt(12);
                case "led":
                    return k == 0 ? person() : random.nextInt(33);
                case "lessons":
                case "learns":
                    return k == 0 ? person() : random.nextInt(8) - 1;
                case "task":
                    return k == 0 ? random.nextInt(8) - 1 : random.nextInt(5);
                case "newcomer":
                    return random.nextInt(66) - 1;
                case "ferry":
                    return k == 2 ? random.nextInt(5) : random.nextInt(11) - 1;
                case "wish":
                    return k == 2 ? random.nextInt(4) == 0 ? 1 : random.nextInt(4) - 1 : person();
                case "theft":
                    return k == 0 ? person() : random.nextInt(6) == 0 ? 997 + random.nextInt(5) : random.nextInt(20);
                case "witness":
                    return k == 0 ? random.nextInt(11) - 1 : random.nextInt(12) - 1;
                case "dark":
                    return k == 0 ? random.nextInt(11) - 1 : k == 1 ? random.nextInt(23) - 1 : random.nextInt(43);
                case "comes":
                    return random.nextInt();
                case "keep":
                case "again":
                    return random.nextInt(4) - 1;
                case "count":
                    return random.nextInt(12) - 1;
                case "suspects":
                case "row":
                    return random.nextInt(12) - 1;
                default:
                    return person();
            }
        }

        private String digits(int n) {
            StringBuilder b = new StringBuilder();
            int sparse = random.nextInt(4);
            int only = random.nextInt(Math.max(1, n));
            for (int i = 0; i < n; i++) {
                int digit = random.nextInt(10);
                b.append(sparse == 0 ? digit : sparse == 1 ? digit % 2 : sparse == 2 ? digit / 8 : i == only ? 1 + digit % 9 : 0);
            }
            return b.toString();
        }

        private String goodTown(int lines) {
            StringBuilder b = new StringBuilder();
            int hoods = random.nextBoolean() ? 9 : 1 + random.nextInt(9);
            for (int i = 0; i < lines; i++) {
                b.append(i > 0 ? ";" : "").append(random.nextInt(hoods)).append(random.nextInt(9));
                int sparse = 1 + random.nextInt(4);
                for (char c = 'p'; c <= 'u'; c++) {
                    b.append(random.nextInt(sparse) == 0 ? String.valueOf(c) : "");
                }
            }
            return b.toString();
        }

        private String goodRule(int deep) {
            String thing;
            int kind = random.nextInt(deep > 0 ? 9 : 5);
            if (kind < 3) {
                thing = String.valueOf("tukrdij".charAt(random.nextInt(7)));
            } else if (kind < 5) {
                thing = String.valueOf(random.nextInt(random.nextBoolean() ? 10 : 1000));
            } else if (kind == 5) {
                thing = "(" + goodRule(deep - 1) + ")";
            } else if (kind == 6) {
                thing = "-" + goodRule(deep - 1);
            } else {
                thing = goodRule(deep - 1) + "+-*/+-*/<>=".charAt(random.nextInt(11)) + goodRule(deep - 1);
            }
            return thing;
        }

        private String goodSeason() {
            StringBuilder b = new StringBuilder();
            int acts = random.nextInt(5) == 0 ? 16 : 1 + random.nextInt(4);
            for (int i = 0; i < acts; i++) {
                b.append(i > 0 ? ";" : "");
                char kind = "ddhsm".charAt(random.nextInt(5));
                b.append(kind);
                if (kind == 'd') {
                    b.append(random.nextBoolean() ? "" : String.valueOf(1 + random.nextInt(9)));
                } else {
                    b.append(letter());
                    b.append(kind == 's' ? letter() : (char) ('0' + random.nextInt(9)));
                }
            }
            return b.toString();
        }

        private char letter() {
            return (char) ('a' + (random.nextInt(12) == 0 ? random.nextInt(9) : Math.max(0, person()) % 9));
        }

        /** A text as it is, or with signs of a kind put in, left out or changed. */
        private String text(String good, String signs) {
            StringBuilder b = new StringBuilder(good);
            int changes = random.nextInt(3) == 0 ? 1 + random.nextInt(2) : 0;
            for (int i = 0; i < changes; i++) {
                int at = random.nextInt(b.length() + 1);
                char c = random.nextInt(20) == 0 ? (char) random.nextInt(256) : signs.charAt(random.nextInt(signs.length()));
                int kind = random.nextInt(4);
                if (kind == 0) {
                    b.insert(at, c);
                } else if (kind == 1 && at < b.length()) {
                    b.deleteCharAt(at);
                } else if (kind == 2 && at < b.length()) {
                    b.setCharAt(at, c);
                } else if (kind == 3) {
                    b.setLength(at);
                }
            }
            return b.length() > 80 ? b.substring(0, 80) : b.toString();
        }

        private boolean type(String text) throws Exception {
            if (!same("end", 0)) {
                return false;
            }
            for (int i = 0; i < text.length(); i += 4) {
                int v = 0;
                for (int k = 0; k < 4; k++) {
                    v = v << 8 | (i + k < text.length() ? text.charAt(i + k) : 0);
                }
                if (!same("sign", v)) {
                    return false;
                }
            }
            told.add("text " + text);
            return same("end", text.length());
        }

        private boolean same(String call, int... args) throws Exception {
            Class<?>[] types = new Class<?>[args.length];
            Object[] values = new Object[args.length];
            for (int i = 0; i < args.length; i++) {
                types[i] = int.class;
                values[i] = args[i];
            }
            String got = answer(NinthDayHooded.class.getMethod(call, types), real, values);
            Method asModel = Model.class.getDeclaredMethod(call, types);
            asModel.setAccessible(true);
            String due = answer(asModel, model, values);
            told.add(call + Arrays.toString(args) + " answered " + got + (got.equals(due) ? "" : ", due is " + due));
            return got.equals(due);
        }

        private static String answer(Method m, Object on, Object[] args) throws Exception {
            try {
                return String.valueOf(m.invoke(on, args));
            } catch (InvocationTargetException e) {
                if (e.getCause() instanceof NoSuchElementException) {
                    return "throws.NoSuchElementException";
                }
                e.getCause().printStackTrace(System.out);
                return "throws." + e.getCause() + " on " + on.getClass();
            }
        }

        private boolean sameRow() throws Exception {
            if (!same("count", 8)) {
                return false;
            }
            told.remove(told.size() - 1);
            for (int i = 0; i < model.row.size(); i++) {
                if (real.row(i) != model.row.get(i)) {
                    told.add("row(" + i + ") answered " + real.row(i) + ", due is " + model.row.get(i));
                    return false;
                }
            }
            return true;
        }

        private boolean sameState() throws Exception {
            int mark = told.size();
            for (int what = -1; what <= 10; what++) {
                if (!same("count", what)) {
                    return false;
                }
            }
            for (int p = -1; p <= model.people.size(); p++) {
                for (int k = -1; k <= 31; k++) {
                    boolean good = same("led", p, k) && (k > 6 || same("of", p, k) && same("lessons", p, k));
                    if (!good || k <= 9 && !same("trusts", p, k)) {
                        return false;
                    }
                }
            }
            while (told.size() > mark) {
                told.remove(told.size() - 1);
            }
            return true;
        }
    }

    private static final class Person {
        int hood;
        int street;
        int trades;
        int came;
        int[] lessons = new int[6];

        Person(int hood, int street, int trades, int came) {
            this.hood = hood;
            this.street = street;
            this.trades = trades;
            this.came = came;
        }

        Person copy() {
            Person p = new Person(hood, street, trades, came);
            p.lessons = lessons.clone();
            return p;
        }
    }

    private static final class Snapshot {
        int now;
        List<Person> people = new ArrayList<>();
        List<int[]> book;
    }

    /** One choice of guides. */
    private static final class Choice {
        int nobody;
        int cost;
        List<Integer> hooded;
        List<Integer> guides;
    }

    private static final class Model {
        String text = "";
        List<Integer> row = new ArrayList<>();
        List<Person> people = new ArrayList<>();
        int now = 0;
        int[][] trust = new int[9][9];
        int[][] likes = new int[9][9];
        String rule = "9-t+r";
        List<int[]> book = new ArrayList<>();
        List<Snapshot> undos = new ArrayList<>();
        Snapshot[] kept = new Snapshot[2];
        List<int[]> tasks = new ArrayList<>();
        List<int[]> wishes = new ArrayList<>();
        List<int[]> thefts = new ArrayList<>();

        Model() {
            for (int[] line : trust) {
                Arrays.fill(line, 1);
            }
        }

        boolean there(int p) {
            return p >= 0 && p < people.size();
        }

        boolean two(int a, int b) {
            return there(a) && there(b) && a != b;
        }

        void tell(Integer... numbers) {
            row = new ArrayList<>(Arrays.asList(numbers));
        }

        Snapshot snapshot() {
            Snapshot s = new Snapshot();
            s.now = now;
            for (Person p : people) {
                s.people.add(p.copy());
            }
            s.book = new ArrayList<>(book);
            return s;
        }

        void restore(Snapshot s) {
            now = s.now;
            people = new ArrayList<>();
            for (Person p : s.people) {
                people.add(p.copy());
            }
            book = new ArrayList<>(s.book);
        }

        void remember(Snapshot s) {
            undos.add(s);
            if (undos.size() > 12) {
                undos.remove(0);
            }
        }

        String read() {
            String t = text;
            text = "";
            return t;
        }

        // ---- the town

        int sign(int v) {
            if (text.length() > 76) {
                return -1;
            }
            text = text + (char) (v >>> 24) + (char) (v >>> 16 & 255) + (char) (v >>> 8 & 255) + (char) (v & 255);
            return text.length();
        }

        boolean end(int n) {
            if (n < 0 || n > text.length()) {
                return false;
            }
            text = text.substring(0, n);
            return true;
        }

        interface Form {
            boolean is(String whole);
        }

        /** The first place behind which no ending makes the text one of a form. */
        static int fault(String t, int most, Form form, String... endings) {
            for (int n = 1; n <= Math.min(t.length(), most); n++) {
                boolean could = false;
                for (String ending : endings) {
                    could |= form.is(t.substring(0, n) + ending);
                }
                if (!could) {
                    return n - 1;
                }
            }
            if (t.length() > most) {
                return most;
            }
            return form.is(t) ? -1 : t.length();
        }

        int town() {
            String t = read();
            if (t.isEmpty()) {
                return 0;
            }
            Pattern p = Pattern.compile("[0-8][0-8]p?q?r?s?t?u?(;[0-8][0-8]p?q?r?s?t?u?)*");
            int room = 9 - people.size();
            // An ending line that is only begun behind a ; is not counted: its first sign is where it has no room.
            int bad = fault(t, 76, w -> p.matcher(w).matches()
                && (w.split(";").length <= room || w.endsWith(";00") && w.split(";").length == room + 1), "", "0", "00");
            if (bad == -1 && t.split(";").length > room) {
                bad = t.lastIndexOf(';') + 1;
            }
            if (bad != -1) {
                int start = 0;
                for (int i = 0; i < room; i++) {
                    int semi = t.indexOf(';', start);
                    start = semi < 0 ? 1000 : semi + 1;
                }
                bad = Math.min(bad, start);
                return -1 - bad;
            }
            for (String line : t.split(";")) {
                int trades = 0;
                for (char c : line.substring(2).toCharArray()) {
                    trades |= 1 << c - 'p';
                }
                people.add(new Person(line.charAt(0) - '0', line.charAt(1) - '0', trades, now));
            }
            undos.clear();
            return t.split(";").length;
        }

        int digitText(int n, int[] into) {
            String t = read();
            for (int i = 0; i < n; i++) {
                if (i >= t.length() || !"0123456789".contains(t.substring(i, i + 1))) {
                    return -1 - i;
                }
            }
            if (t.length() > n) {
                return -1 - n;
            }
            for (int i = 0; i < n; i++) {
                into[i] = t.charAt(i) - '0';
            }
            return n;
        }

        int trust(int p) {
            if (!there(p)) {
                text = "";
                return -100;
            }
            return digitText(people.size(), trust[p]);
        }

        int likes(int p) {
            if (!there(p)) {
                text = "";
                return -100;
            }
            return digitText(9, likes[p]);
        }

        int rule() {
            String t = read();
            if (t.isEmpty()) {
                rule = "9-t+r";
                return 0;
            }
            String[] endings = {"", ")", "))", ")))", "))))", "1", "1)", "1))", "1)))", "1))))"};
            int bad = fault(t, 40, w -> new Reader(w, new int[7]).isWhole(), endings);
            if (bad == -1) {
                rule = t;
                return 0;
            }
            return -1 - bad;
        }

        int of(int p, int what) {
            if (!there(p) || what < 0 || what > 5) {
                throw new NoSuchElementException();
            }
            Person x = people.get(p);
            int open = 0;
            for (int t = 0; t < 6; t++) {
                open += (x.trades & 1 << t) == 0 ? x.lessons[t] : 0;
            }
            int wait = 0;
            while ((now + wait) % 9 != x.hood) {
                wait++;
            }
            return new int[] {x.hood, x.street, x.trades, likes[p][x.hood], wait, open}[what];
        }

        int trusts(int a, int b) {
            return two(a, b) ? trust[a][b] : -1;
        }

        int lessons(int p, int t) {
            return there(p) && t >= 0 && t < 6 ? people.get(p).lessons[t] : -1;
        }

        int set(int p, int what, int v) {
            if (!there(p) || what < 0 || what > 2 || v < 0 || v > (what == 2 ? 63 : 8)) {
                return -1;
            }
            Person x = people.get(p);
            int was = what == 0 ? x.hood : what == 1 ? x.street : x.trades;
            if (what == 0) {
                x.hood = v;
            } else if (what == 1) {
                x.street = v;
            } else {
                x.trades = v;
            }
            return was;
        }

        int sheet(int kind, int n, int f, int step) {
            if (kind < 0 || kind > 3 || n > 9) {
                return -1;
            }
            if (kind == 3) {
                for (Person p : people) {
                    p.hood = 0;
                }
                return -3;
            }
            if (n < 0) {
                return -2;
            }
            int entry = f;
            int sum = 0;
            for (int i = 0; i < people.size(); i++) {
                int v = kind == 0 ? (byte) entry : kind == 1 ? (short) entry : entry;
                people.get(i).hood = i >= n || v < 0 ? 0 : v > 8 ? 8 : v;
                sum += people.get(i).hood;
                entry += step;
            }
            return sum;
        }

        // ---- days

        static int apart(int a, int b) {
            int steps = 0;
            while ((a + steps) % 9 != b && (b + steps) % 9 != a) {
                steps++;
            }
            return steps;
        }

        int costIn(int a, int b, int day) {
            Person x = people.get(a);
            Person y = people.get(b);
            int new_ = 0;
            for (int t = 0; t < 6; t++) {
                new_ += (y.trades >> t & 1) == 1 && (x.trades >> t & 1) == 0 ? 1 : 0;
            }
            int[] things = {trust[a][b], trust[b][a], apart(x.street, y.street), new_, day % 9, a, b};
            int v = new Reader(rule, things).whole();
            return v < 0 ? 0 : v > 99 ? 99 : v;
        }

        int cost(int a, int b) {
            if (!two(a, b)) {
                throw new NoSuchElementException();
            }
            return costIn(a, b, now);
        }

        List<Integer> hoodedIn(int day) {
            List<Integer> who = new ArrayList<>();
            for (int p = 0; p < people.size(); p++) {
                if (people.get(p).hood == day % 9) {
                    who.add(p);
                }
            }
            return who;
        }

        static int bits(List<Integer> who) {
            int b = 0;
            for (int p : who) {
                b |= 1 << p;
            }
            return b;
        }

        Choice choiceOf(int day) {
            List<Integer> hooded = hoodedIn(day);
            int[][] costs = new int[9][9];
            for (int a : hooded) {
                for (int b = 0; b < people.size(); b++) {
                    costs[a][b] = hooded.contains(b) || trust[a][b] == 0 ? -1 : costIn(a, b, day);
                }
            }
            Choice[] best = new Choice[1];
            tryAll(hooded, costs, new ArrayList<>(), best);
            return best[0];
        }

        void tryAll(List<Integer> hooded, int[][] costs, List<Integer> guides, Choice[] best) {
            if (guides.size() == hooded.size()) {
                Choice c = new Choice();
                c.hooded = hooded;
                c.guides = new ArrayList<>(guides);
                for (int i = 0; i < guides.size(); i++) {
                    if (guides.get(i) == 9) {
                        c.nobody++;
                    } else {
                        c.cost += costs[hooded.get(i)][guides.get(i)];
                    }
                }
                if (best[0] == null || better(c, best[0])) {
                    best[0] = c;
                }
                return;
            }
            // From the last on, so that the order in which they are tried does not help.
            for (int g = 9; g >= 0; g--) {
                boolean may = g == 9 || g < people.size() && costs[hooded.get(guides.size())][g] >= 0
                    && Collections.frequency(guides, g) < 2;
                if (may) {
                    guides.add(g);
                    tryAll(hooded, costs, guides, best);
                    guides.remove(guides.size() - 1);
                }
            }
        }

        static boolean better(Choice a, Choice b) {
            if (a.nobody != b.nobody) {
                return a.nobody < b.nobody;
            }
            return a.cost != b.cost ? a.cost < b.cost : less(a.guides, b.guides);
        }

        static boolean less(List<Integer> a, List<Integer> b) {
            for (int i = 0; i < a.size(); i++) {
                if (!a.get(i).equals(b.get(i))) {
                    return a.get(i) < b.get(i);
                }
            }
            return false;
        }

        int guides(int day) {
            if (day < 0 || day > 999) {
                return -1;
            }
            Choice c = choiceOf(day);
            tell(c.cost, bits(c.hooded));
            for (int g : c.guides) {
                row.add(g == 9 ? -1 : g);
            }
            return c.nobody;
        }

        int lonely(int day) {
            if (day < 0 || day > 999) {
                return -1;
            }
            Choice c = choiceOf(day);
            int alone = 0;
            int never = 0;
            for (int i = 0; i < c.hooded.size(); i++) {
                int p = c.hooded.get(i);
                alone |= c.guides.get(i) == 9 ? 1 << p : 0;
                boolean any = false;
                for (int g = 0; g < people.size(); g++) {
                    any |= people.get(g).hood != people.get(p).hood && trust[p][g] >= 1;
                }
                never |= any ? 0 : 1 << p;
            }
            tell(never);
            return alone;
        }

        int hardest() {
            int best = now;
            for (int d = now + 1; d <= now + 8; d++) {
                Choice a = choiceOf(d);
                Choice b = choiceOf(best);
                if (a.nobody > b.nobody || a.nobody == b.nobody && a.cost > b.cost) {
                    best = d;
                }
            }
            tell(choiceOf(best).nobody, choiceOf(best).cost);
            return best % 9;
        }

        /** A day goes by: led, cost, learnt, and how often each led. */
        int[] goBy() {
            Choice c = choiceOf(now);
            int[] sums = new int[12];
            int[] page = new int[9];
            Arrays.fill(page, -4);
            for (int p = 0; p < people.size(); p++) {
                page[p] = -2;
            }
            for (int i = 0; i < c.hooded.size(); i++) {
                int g = c.guides.get(i);
                Person x = people.get(c.hooded.get(i));
                page[c.hooded.get(i)] = g == 9 ? -3 : g;
                if (g == 9) {
                    continue;
                }
                sums[0]++;
                sums[3 + g]++;
                for (int t = 0; t < 6; t++) {
                    if ((people.get(g).trades >> t & 1) == 1 && (x.trades >> t & 1) == 0) {
                        x.lessons[t]++;
                        if (x.lessons[t] >= 3) {
                            x.trades |= 1 << t;
                            sums[2]++;
                        }
                        break;
                    }
                }
            }
            sums[1] = c.cost;
            book.add(0, page);
            if (book.size() > 30) {
                book.remove(30);
            }
            now++;
            return sums;
        }

        int[] goBy(int n) {
            int[] all = new int[12];
            for (int i = 0; i < n; i++) {
                int[] one = goBy();
                for (int k = 0; k < 12; k++) {
                    all[k] += one[k];
                }
            }
            return all;
        }

        int day() {
            return days(1);
        }

        int days(int n) {
            if (n < 0 || n > 40) {
                return -1;
            }
            if (n > 0) {
                remember(snapshot());
            }
            int[] sums = goBy(n);
            tell(sums[1], sums[2]);
            return sums[0];
        }

        int season() {
            String t = read();
            Pattern p = Pattern.compile("(d[1-9]?|[hm][a-i][0-8]|s[a-i][a-i])(;(d[1-9]?|[hm][a-i][0-8]|s[a-i][a-i]))*");
            int bad = t.isEmpty() ? -1 : fault(t, 60, w -> p.matcher(w).matches(), "", "d", "0", "a", "a0", "aa");
            if (bad != -1) {
                return -1 - bad;
            }
            Snapshot before = snapshot();
            int acts = 0;
            int led = 0;
            int stuck = 0;
            for (String act : t.isEmpty() ? new String[0] : t.split(";")) {
                int a = act.length() > 1 ? act.charAt(1) - 'a' : -1;
                int b = act.length() > 2 ? act.charAt(2) - 'a' : -1;
                if (act.charAt(0) == 'd') {
                    led += goBy(act.length() == 1 ? 1 : act.charAt(1) - '0')[0];
                } else if (act.charAt(0) == 's' && two(a, b)) {
                    int hood = people.get(a).hood;
                    people.get(a).hood = people.get(b).hood;
                    people.get(b).hood = hood;
                } else if (act.charAt(0) == 'h' && there(a)) {
                    people.get(a).hood = act.charAt(2) - '0';
                } else if (act.charAt(0) == 'm' && there(a)) {
                    people.get(a).street = act.charAt(2) - '0';
                } else {
                    stuck = 1;
                    break;
                }
                acts++;
            }
            if (acts > 0) {
                remember(before);
            }
            tell(stuck, led);
            return acts;
        }

        int undo() {
            if (undos.isEmpty()) {
                return -1;
            }
            restore(undos.remove(undos.size() - 1));
            return undos.size();
        }

        int led(int p, int k) {
            if (!there(p) || k < 1 || k > 30) {
                return -1;
            }
            return k > book.size() || now - k < people.get(p).came ? -4 : book.get(k - 1)[p];
        }

        int leads(int p) {
            if (!there(p)) {
                return -1;
            }
            int[] often = new int[9];
            int all = 0;
            for (int[] page : book) {
                for (int q = 0; q < 9; q++) {
                    if (page[q] == p) {
                        often[q]++;
                        all++;
                    }
                }
            }
            int whom = 0;
            int most = 0;
            for (int q = 0; q < 9; q++) {
                whom |= often[q] > 0 ? 1 << q : 0;
                most = often[q] > often[most] ? q : most;
            }
            tell(whom, all == 0 ? -1 : most);
            return all;
        }

        int ahead(int n) {
            if (n < 0 || n > 40) {
                return -1;
            }
            Snapshot s = snapshot();
            int[] sums = goBy(n);
            restore(s);
            tell();
            for (int p = 0; p < people.size(); p++) {
                row.add(sums[3 + p]);
            }
            row.add(sums[1]);
            row.add(sums[2]);
            return sums[0];
        }

        int learns(int p, int t) {
            if (!there(p) || t < 0 || t > 5) {
                return -1;
            }
            Snapshot s = snapshot();
            int n = 0;
            while (n <= 40 && (people.get(p).trades >> t & 1) == 0) {
                n++;
                if (n <= 40) {
                    goBy();
                }
            }
            tell(people.get(p).lessons[t]);
            restore(s);
            return n > 40 ? -2 : n;
        }

        // ---- tasks

        int task(int t, int need) {
            if (t < 0 || t > 5 || need < 1 || need > 3) {
                return -1;
            }
            if (tasks.size() == 6) {
                return -2;
            }
            tasks.add(new int[] {t, need});
            return tasks.size() - 1;
        }

        int done() {
            if (tasks.isEmpty()) {
                return -1;
            }
            tasks.remove(tasks.size() - 1);
            return tasks.size();
        }

        static boolean place(int slot, List<Integer> slots, List<Integer> sees, boolean[] asked, int[] workOf) {
            for (int p = 0; p < sees.size(); p++) {
                if ((sees.get(p) >> slots.get(slot) & 1) == 1 && !asked[p]) {
                    asked[p] = true;
                    if (workOf[p] < 0 || place(workOf[p], slots, sees, asked, workOf)) {
                        workOf[p] = slot;
                        return true;
                    }
                }
            }
            return false;
        }

        /** What is wanting on a day, by giving slots to people one by one. */
        int wanting(List<Person> all, int hood) {
            List<Integer> slots = new ArrayList<>();
            for (int[] task : tasks) {
                for (int i = 0; i < task[1]; i++) {
                    slots.add(task[0]);
                }
            }
            List<Integer> sees = new ArrayList<>();
            for (Person p : all) {
                if (p.hood != hood) {
                    sees.add(p.trades);
                }
            }
            int[] workOf = new int[sees.size()];
            Arrays.fill(workOf, -1);
            int wanting = 0;
            for (int slot = 0; slot < slots.size(); slot++) {
                wanting += place(slot, slots, sees, new boolean[sees.size()], workOf) ? 0 : 1;
            }
            return wanting;
        }

        int wantingOfAll(List<Person> all) {
            int sum = 0;
            for (int h = 0; h < 9; h++) {
                sum += wanting(all, h);
            }
            return sum;
        }

        int manned(int h) {
            if (h < 0 || h > 8) {
                return -1;
            }
            tell(people.size() - hoodedIn(h).size());
            return wanting(people, h);
        }

        int bare() {
            int days = 0;
            for (int h = 0; h < 9; h++) {
                days |= wanting(people, h) > 0 ? 1 << h : 0;
            }
            tell(wantingOfAll(people));
            return days;
        }

        int blindest() {
            int best = 0;
            for (int h = 1; h < 9; h++) {
                best = hoodedIn(h).size() > hoodedIn(best).size() ? h : best;
            }
            tell(hoodedIn(best).size());
            return best;
        }

        List<List<Integer>> mendRows(int n) {
            List<List<Integer>> rows = new ArrayList<>();
            for (int a = 0; a < people.size(); a++) {
                for (int h = 0; h < 9; h++) {
                    int own = people.get(a).hood;
                    if (h == own) {
                        continue;
                    }
                    people.get(a).hood = h;
                    if (n == 1 && wantingOfAll(people) == 0) {
                        rows.add(List.of(a, h));
                    }
                    for (int b = a + 1; n == 2 && b < people.size(); b++) {
                        for (int g = 0; g < 9; g++) {
                            int ownB = people.get(b).hood;
                            people.get(b).hood = g;
                            if (g != ownB && wantingOfAll(people) == 0) {
                                rows.add(List.of(a, h, b, g));
                            }
                            people.get(b).hood = ownB;
                        }
                    }
                    people.get(a).hood = own;
                }
            }
            return rows;
        }

        int mends() {
            if (wantingOfAll(people) == 0) {
                tell();
                return 0;
            }
            for (int n = 1; n <= 2; n++) {
                List<List<Integer>> rows = mendRows(n);
                if (!rows.isEmpty()) {
                    List<Integer> least = rows.get(0);
                    for (List<Integer> r : rows) {
                        least = less(r, least) ? r : least;
                    }
                    row = new ArrayList<>(least);
                    return n;
                }
            }
            return -2;
        }

        int mend() {
            int n = mends();
            if (n > 0) {
                remember(snapshot());
                for (int i = 0; i < n; i++) {
                    people.get(row.get(2 * i)).hood = row.get(2 * i + 1);
                }
            }
            return n;
        }

        int newcomer(int trades) {
            if (trades < 0 || trades > 63) {
                return -1;
            }
            int best = -1;
            int least = 100000;
            for (int h = 0; h < 9; h++) {
                List<Person> all = new ArrayList<>(people);
                all.add(new Person(h, 0, trades, 0));
                if (wantingOfAll(all) < least) {
                    least = wantingOfAll(all);
                    best = h;
                }
            }
            tell(least);
            return best;
        }

        int needed() {
            int who = 0;
            for (int p = 0; p < people.size(); p++) {
                List<Person> all = new ArrayList<>(people);
                all.remove(p);
                who |= wantingOfAll(all) > wantingOfAll(people) ? 1 << p : 0;
            }
            return who;
        }

        void change(int a, int b) {
            int hood = people.get(a).hood;
            people.get(a).hood = people.get(b).hood;
            people.get(b).hood = hood;
        }

        int gain(int a, int b) {
            if (!two(a, b)) {
                throw new NoSuchElementException();
            }
            int before = wantingOfAll(people);
            change(a, b);
            int behind = wantingOfAll(people);
            change(a, b);
            return before - behind;
        }

        int ferry(int a, int b, int n) {
            if (a < 0 || a > 8 || b < 0 || b > 8 || n < 1 || n > 3) {
                return -1;
            }
            int days = 0;
            for (int h = 0; h < 9; h++) {
                int see = 0;
                for (Person p : people) {
                    see += (p.street == a || p.street == b) && p.hood != h ? 1 : 0;
                }
                days |= see >= n ? 1 << h : 0;
            }
            return days;
        }

        // ---- wishes, rings

        int wish(int a, int b, int same) {
            if (!two(a, b) || same < 0 || same > 1) {
                return -1;
            }
            if (wishes.size() == 12) {
                return -2;
            }
            wishes.add(new int[] {a, b, same});
            return wishes.size();
        }

        int forget() {
            int n = wishes.size();
            wishes.clear();
            return n;
        }

        int[] hoods() {
            int[] hoods = new int[people.size()];
            for (int p = 0; p < hoods.length; p++) {
                hoods[p] = people.get(p).hood;
            }
            return hoods;
        }

        int metBits(int[] hoods) {
            int bits = 0;
            for (int i = 0; i < wishes.size(); i++) {
                int[] w = wishes.get(i);
                boolean like = hoods[w[0]] == hoods[w[1]];
                bits |= like && w[2] == 1 || !like && w[2] == 0 ? 1 << i : 0;
            }
            return bits;
        }

        int met() {
            tell(metBits(hoods()));
            return Integer.bitCount(row.get(0));
        }

        int please() {
            int most = Integer.bitCount(metBits(hoods()));
            int who = -1;
            int where = -1;
            int wanting = wantingOfAll(people);
            for (int p = 0; p < people.size(); p++) {
                int own = people.get(p).hood;
                for (int h = 0; h < 9; h++) {
                    people.get(p).hood = h;
                    int n = Integer.bitCount(metBits(hoods()));
                    if (n > most && wantingOfAll(people) <= wanting) {
                        most = n;
                        who = p;
                        where = h;
                    }
                }
                people.get(p).hood = own;
            }
            tell(where, most);
            return who;
        }

        /** All rows, in their order, of hoods 0 .. k - 1 (a person at a time, wishes looked at as soon as both have one). */
        boolean colour(int[] c, int p, int k) {
            if (p == c.length) {
                return true;
            }
            for (int h = 0; h < k; h++) {
                c[p] = h;
                boolean good = true;
                for (int[] w : wishes) {
                    if (w[0] <= p && w[1] <= p) {
                        good &= (c[w[0]] == c[w[1]]) == (w[2] == 1);
                    }
                }
                if (good && colour(c, p + 1, k)) {
                    return true;
                }
            }
            return false;
        }

        int colours() {
            if (people.isEmpty()) {
                tell();
                return 0;
            }
            // Five HOODS are enough for twelve wishes: more need fifteen pairs that all wish two.
            for (int k = 1; k <= 5; k++) {
                int[] c = new int[people.size()];
                if (colour(c, 0, k)) {
                    tell();
                    for (int h : c) {
                        row.add(h);
                    }
                    return k;
                }
            }
            return -2;
        }

        int[] nine() {
            int[] sums = new int[2];
            for (int d = now; d < now + 9; d++) {
                Choice c = choiceOf(d);
                sums[0] += c.nobody;
                sums[1] += c.cost;
            }
            return sums;
        }

        int friend(int p) {
            if (!there(p)) {
                return -2;
            }
            int[] best = nine();
            int who = -1;
            for (int q = 0; q < people.size(); q++) {
                int own = trust[p][q];
                if (q != p) {
                    trust[p][q] = 9;
                    int[] s = nine();
                    trust[p][q] = own;
                    if (s[0] < best[0] || s[0] == best[0] && s[1] < best[1]) {
                        best = s;
                        who = q;
                    }
                }
            }
            tell(best[0], best[1]);
            return who;
        }

        boolean swap(int a, int b) {
            if (!two(a, b)) {
                return false;
            }
            remember(snapshot());
            change(a, b);
            return true;
        }

        /** All rings of a length, begun with their least. */
        void rings(int[] hoods, int length, List<Integer> begun, List<List<Integer>> found) {
            if (begun.size() == length) {
                boolean good = true;
                for (int i = 0; i < length; i++) {
                    int p = begun.get(i);
                    good &= p >= begun.get(0) && likes[p][hoods[begun.get((i + 1) % length)]] > likes[p][hoods[p]];
                }
                if (good) {
                    found.add(new ArrayList<>(begun));
                }
                return;
            }
            for (int p = 0; p < hoods.length; p++) {
                if (!begun.contains(p)) {
                    begun.add(p);
                    rings(hoods, length, begun, found);
                    begun.remove(begun.size() - 1);
                }
            }
        }

        List<Integer> ringOf(int[] hoods) {
            for (int length = 2; length <= 4; length++) {
                List<List<Integer>> found = new ArrayList<>();
                rings(hoods, length, new ArrayList<>(), found);
                if (!found.isEmpty()) {
                    List<Integer> least = found.get(0);
                    for (List<Integer> r : found) {
                        least = less(r, least) ? r : least;
                    }
                    return least;
                }
            }
            return null;
        }

        static int[] turned(int[] hoods, List<Integer> ring) {
            int[] next = hoods.clone();
            for (int i = 0; i < ring.size(); i++) {
                next[ring.get(i)] = hoods[ring.get((i + 1) % ring.size())];
            }
            return next;
        }

        int ring() {
            List<Integer> r = ringOf(hoods());
            if (r == null) {
                return -2;
            }
            row = new ArrayList<>(r);
            return r.size();
        }

        int turn() {
            int n = ring();
            if (n > 0) {
                remember(snapshot());
                int[] next = turned(hoods(), row);
                for (int p = 0; p < next.length; p++) {
                    people.get(p).hood = next[p];
                }
            }
            return n;
        }

        int rests() {
            int[] hoods = hoods();
            int n = 0;
            for (List<Integer> r = ringOf(hoods); r != null; r = ringOf(hoods)) {
                hoods = turned(hoods, r);
                n++;
            }
            tell();
            for (int h : hoods) {
                row.add(h);
            }
            return n;
        }

        int mostLiked(int[] hoods, int p, int used) {
            int most = 0;
            for (int q = 0; q < hoods.length && p < hoods.length; q++) {
                if ((used >> q & 1) == 0) {
                    most = Math.max(most, likes[p][hoods[q]] + mostLiked(hoods, p + 1, used | 1 << q));
                }
            }
            return most;
        }

        int liked() {
            int sum = 0;
            for (int p = 0; p < people.size(); p++) {
                sum += likes[p][people.get(p).hood];
            }
            tell(mostLiked(hoods(), 0, 0));
            return sum;
        }

        // ---- thefts, witnesses

        int theft(int p, int day) {
            if (!there(p) || day < 0 || day > 999 || thefts.size() == 10) {
                return -1;
            }
            thefts.add(new int[] {p, day});
            return thefts.size();
        }

        int pardon() {
            int n = thefts.size();
            thefts.clear();
            return n;
        }

        boolean can(int p, int[] theft) {
            Person robbed = people.get(theft[0]);
            boolean sees = people.get(p).hood != theft[1] % 9;
            boolean near = apart(people.get(p).street, robbed.street) <= 2;
            boolean hooded = robbed.hood == theft[1] % 9;
            return p != theft[0] && sees && near && (!hooded || trust[theft[0]][p] > 0);
        }

        int suspects(int i) {
            if (i < 0 || i >= thefts.size()) {
                return -1;
            }
            int who = 0;
            for (int p = 0; p < people.size(); p++) {
                who |= can(p, thefts.get(i)) ? 1 << p : 0;
            }
            tell(who);
            return Integer.bitCount(who);
        }

        int thief() {
            int all = 0;
            for (int p = 0; p < people.size(); p++) {
                boolean every = true;
                for (int[] t : thefts) {
                    every &= can(p, t);
                }
                all |= every ? 1 << p : 0;
            }
            for (int n = 0; n <= people.size(); n++) {
                for (int set = 0; set < 1 << people.size(); set++) {
                    boolean good = Integer.bitCount(set) == n;
                    for (int[] t : thefts) {
                        boolean one = false;
                        for (int p = 0; p < people.size(); p++) {
                            one |= (set >> p & 1) == 1 && can(p, t);
                        }
                        good &= one;
                    }
                    if (good) {
                        tell(n, set);
                        return all;
                    }
                }
            }
            tell(-1, 0);
            return all;
        }

        int witness(int street, int day) {
            if (street < 0 || street > 8 || day < 0 || day > 999) {
                return -1;
            }
            int see = 0;
            int hooded = 0;
            for (int p = 0; p < people.size(); p++) {
                int s = people.get(p).street;
                if (s == street || s == (street + 1) % 9 || s == (street + 8) % 9) {
                    see |= people.get(p).hood == day % 9 ? 0 : 1 << p;
                    hooded |= people.get(p).hood == day % 9 ? 1 << p : 0;
                }
            }
            tell(see, hooded);
            return 2 * Integer.bitCount(see) + Integer.bitCount(hooded);
        }

        int dark(int street, int v, int n) {
            if (street < 0 || street > 8 || v < 0 || v > 20 || n < 1 || n > 40) {
                return -1;
            }
            List<Integer> before = row;
            int answer = -2;
            for (int i = n - 1; i >= 0; i--) {
                answer = witness(street, (now + i) % 9) <= v ? i : answer;
            }
            row = before;
            return answer;
        }

        // ---- seeds, kept

        int comes(int seed) {
            if (people.size() == 9) {
                return -1;
            }
            int[] draws = new int[3];
            int r = seed;
            for (int i = 0; i < 3; i++) {
                r = r * 1103515245 + 12345;
                draws[i] = (int) ((r & 0xFFFFFFFFL) / 65536 % (i == 2 ? 64 : 9));
            }
            people.add(new Person(draws[0], draws[1], draws[2], now));
            undos.clear();
            return people.size() - 1;
        }

        boolean keep(int i) {
            if (i < 0 || i > 1) {
                return false;
            }
            kept[i] = snapshot();
            return true;
        }

        boolean again(int i) {
            if (i < 0 || i > 1 || kept[i] == null || kept[i].people.size() != people.size()) {
                return false;
            }
            restore(kept[i]);
            undos.clear();
            return true;
        }

        int count(int what) {
            switch (what) {
                case 0:
                    return people.size();
                case 1:
                    return now;
                case 2:
                    return bits(hoodedIn(now));
                case 3:
                    return tasks.size();
                case 4:
                    return wishes.size();
                case 5:
                    return thefts.size();
                case 6:
                    return book.size();
                case 7:
                    return undos.size();
                case 8:
                    return row.size();
                case 9:
                    return text.length();
                default:
                    return -1;
            }
        }

        int row(int i) {
            if (i < 0 || i >= row.size()) {
                throw new NoSuchElementException();
            }
            return row.get(i);
        }
    }

    /** Reads a rule by its grammar, from the weakest binding down. */
    private static final class Reader {
        private final String s;
        private final int[] things;
        private int at = 0;
        private int deep = 0;
        private boolean bad = false;

        Reader(String s, int[] things) {
            this.s = s;
            this.things = things;
        }

        boolean isWhole() {
            whole();
            return !bad;
        }

        int whole() {
            int v = expression();
            bad |= at != s.length();
            return v;
        }

        private char next() {
            return at < s.length() ? s.charAt(at) : '\0';
        }

        private int expression() {
            int v = sum();
            char c = next();
            if (c == '<' || c == '>' || c == '=') {
                at++;
                int w = sum();
                return c == '<' && v < w || c == '>' && v > w || c == '=' && v == w ? 1 : 0;
            }
            return v;
        }

        private int sum() {
            int v = product();
            while (!bad && (next() == '+' || next() == '-')) {
                boolean plus = s.charAt(at++) == '+';
                int w = product();
                v = plus ? v + w : v - w;
            }
            return v;
        }

        private int product() {
            int v = signed();
            while (!bad && (next() == '*' || next() == '/')) {
                boolean times = s.charAt(at++) == '*';
                int w = signed();
                v = times ? v * w : w == 0 ? 0 : v / w;
            }
            return v;
        }

        private int signed() {
            if (next() == '-') {
                at++;
                return -signed();
            }
            return thing();
        }

        private int thing() {
            char c = next();
            int which = c == '\0' ? -1 : "turkdij".indexOf(c);
            if (which >= 0) {
                at++;
                return things[which];
            }
            if (c == '(' && deep < 4) {
                at++;
                deep++;
                int v = expression();
                deep--;
                bad |= next() != ')';
                at++;
                return v;
            }
            int from = at;
            while (at < from + 3 && next() >= '0' && next() <= '9') {
                at++;
            }
            bad |= at == from;
            return at == from ? 0 : Integer.parseInt(s.substring(from, at));
        }
    }
}
