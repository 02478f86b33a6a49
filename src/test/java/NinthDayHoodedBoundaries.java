import java.io.IOException;
import java.lang.annotation.Retention;
import java.lang.annotation.RetentionPolicy;
import java.lang.reflect.InvocationTargetException;
import java.lang.reflect.Method;
import java.nio.charset.StandardCharsets;
import java.nio.file.Files;
import java.nio.file.Path;
import java.util.ArrayList;
import java.util.Arrays;
import java.util.Comparator;
import java.util.List;
import java.util.NoSuchElementException;

/**
 * A test of its own for each sentence of the document that names a boundary case. Each test bears the sentence; its name
 * begins with the promise's number (p04) or with terms. With names as arguments only these tests run.
 */
public final class NinthDayHoodedBoundaries {
    private static final Path DOCUMENT = Path.of("../shared/DOC.md");
    private static final int PROMISES = 57;
    private static final int NONE = NinthDayHooded.NONE;
    /** What a call that throws NoSuchElementException counts here; no call answers it. */
    private static final int THROWS = -1000000;
    /** a hooded on day 0 in street 0 with p q; b 0, 1; c 1, 1 with r; d 4, 8 with p. */
    private static final String FOUR = "00pq;01;11r;48p";
    private static final String NINE = "00;11;22;33;44;55;66;77;88";

    /** The sentence, or the part of one, that a test is for. */
    @Retention(RetentionPolicy.RUNTIME)
    private @interface Says {
        String value();
    }

    private interface Call {
        int answer();
    }

    private interface Act {
        int on(NinthDayHooded x);
    }

    private interface Maker {
        NinthDayHooded make();
    }

    private static String test = "";
    private static int wrong = 0;
    private static int asked = 0;

    public static void main(String[] args) throws Exception {
        String document = documentText();
        List<String> only = List.of(args);
        boolean[] seen = new boolean[PROMISES + 1];
        int ran = 0;
        for (Method m : tests()) {
            test = m.getName();
            if (test.matches("p\\d\\d.*")) {
                seen[Integer.parseInt(test.substring(1, 3))] = true;
            }
            if (only.isEmpty() || only.contains(test)) {
                run(m, document);
                ran++;
            }
        }
        for (int p = 1; p <= PROMISES; p++) {
            test = "promise " + p;
            due("has a test", true, seen[p]);
        }
        System.out.println(wrong == 0 ? ran + " boundaries hold, " + asked + " answers are as due" : wrong + " answers are not as due");
        if (wrong != 0 || ran == 0) {
            System.exit(1);
        }
    }

    // ---- how tests are run

    private static List<Method> tests() {
        List<Method> all = new ArrayList<>();
        for (Method m : NinthDayHoodedBoundaries.class.getDeclaredMethods()) {
            if (m.isAnnotationPresent(Says.class)) {
                all.add(m);
            }
        }
        all.sort(Comparator.comparing(Method::getName));
        return all;
    }

    private static void run(Method m, String document) throws IllegalAccessException {
        String said = m.getAnnotation(Says.class).value();
        if (!document.isEmpty() && !document.contains(said)) {
            fail("the document does not say: " + said);
        }
        try {
            m.invoke(null);
        } catch (InvocationTargetException e) {
            fail("ended by " + e.getCause());
        }
    }

    /** The document with single blanks alone, or nothing, if it is not there. */
    private static String documentText() throws IOException {
        return Files.exists(DOCUMENT) ? Files.readString(DOCUMENT, StandardCharsets.UTF_8).replaceAll("\\s+", " ") : "";
    }

    private static void fail(String what) {
        wrong++;
        System.out.println(test + ": " + what);
    }

    private static void due(String what, int want, int got) {
        asked++;
        if (got != want) {
            fail(what + " answered " + got + ", due is " + want);
        }
    }

    private static void due(String what, boolean want, boolean got) {
        due(what, bit(want), bit(got));
    }

    private static void dueRow(String what, NinthDayHooded x, int... want) {
        asked++;
        int[] got = rowOf(x);
        if (!Arrays.equals(got, want)) {
            fail(what + " told the row " + Arrays.toString(got) + ", due is " + Arrays.toString(want));
        }
    }

    private static void dueThrow(String what, Call call) {
        due(what + " (" + THROWS + ": NoSuchElementException)", THROWS, orThrows(call));
    }

    private static int orThrows(Call call) {
        try {
            return call.answer();
        } catch (NoSuchElementException e) {
            return THROWS;
        }
    }

    private static int bit(boolean b) {
        return b ? 1 : 0;
    }

    private static int[] rowOf(NinthDayHooded x) {
        int[] row = new int[x.count(8)];
        for (int i = 0; i < row.length; i++) {
            row[i] = x.row(i);
        }
        return row;
    }

    // ---- texts

    private static NinthDayHooded type(NinthDayHooded x, String text) {
        for (int i = 0; i < text.length(); i += 4) {
            int v = 0;
            for (int k = 0; k < 4; k++) {
                v = v << 8 | (i + k < text.length() ? text.charAt(i + k) : 0);
            }
            x.sign(v);
        }
        x.end(text.length());
        return x;
    }

    private static NinthDayHooded townOf(String text) {
        NinthDayHooded x = new NinthDayHooded();
        type(x, text).town();
        return x;
    }

    private static int townText(NinthDayHooded x, String text) {
        return type(x, text).town();
    }

    private static int trustText(NinthDayHooded x, int person, String text) {
        return type(x, text).trust(person);
    }

    private static int likesText(NinthDayHooded x, int person, String text) {
        return type(x, text).likes(person);
    }

    private static int ruleText(NinthDayHooded x, String text) {
        return type(x, text).rule();
    }

    private static int seasonText(NinthDayHooded x, String text) {
        return type(x, text).season();
    }

    /** COST by a rule of the first that is HOODED in day 2: t 3, u 5, r 4, k 2, d 2, i 0, j 1. */
    private static int costBy(String rule) {
        NinthDayHooded x = townOf("00p;14pqr");
        trustText(x, 0, "03");
        trustText(x, 1, "50");
        x.days(2);
        int read = ruleText(x, rule);
        return read == 0 ? x.cost(0, 1) : read;
    }

    private static void dueCosts(String[] rules, int... costs) {
        for (int i = 0; i < costs.length; i++) {
            due("cost by " + rules[i], costs[i], costBy(rules[i]));
        }
    }

    private static String[] texts(String... all) {
        return all;
    }

    // ---- all that can be asked of an object

    /** An object with something of everything: three signs in THE TEXT, a row of four, two undos, something kept under 0. */
    private static NinthDayHooded rich() {
        NinthDayHooded x = townOf(FOUR);
        trustText(x, 0, "0212");
        trustText(x, 2, "3010");
        likesText(x, 0, "012345678");
        likesText(x, 2, "876543210");
        ruleText(x, "t+r+k+d");
        x.task(0, 1);
        x.task(2, 2);
        x.wish(0, 1, 1);
        x.wish(0, 2, 0);
        x.theft(0, 0);
        x.theft(2, 5);
        x.keep(0);
        x.days(3);
        x.swap(0, 3);
        x.guides(4);
        return type(x, "00p");
    }

    private static final int PARTS = 7;

    /** A part of all that an object answers; each part is asked of an object of its own, as most of it changes something. */
    private static String told(NinthDayHooded x, int part) {
        StringBuilder b = new StringBuilder();
        switch (part) {
            case 0:
                return tellCounts(b.append(Arrays.toString(rowOf(x))).append(x.count(8)), x).toString();
            case 1:
                return tellPeople(b, x).toString();
            case 2:
                return tellBook(b, x).toString();
            case 3:
                return tellRest(b, x).toString();
            case 4:
                while (x.count(7) > 0) {
                    b.append(x.undo()).append('!');
                    tellPeople(tellCounts(b, x), x);
                }
                return tellBook(b, x).toString();
            case 5:
                for (int i = 0; i < 2; i++) {
                    b.append(x.again(i)).append('!');
                    tellPeople(tellCounts(b, x), x);
                }
                return tellBook(b, x).toString();
            default:
                return tellPeople(b.append(x.town()).append('!'), x).toString();
        }
    }

    private static StringBuilder tellCounts(StringBuilder b, NinthDayHooded x) {
        for (int what = 0; what <= 9; what++) {
            if (what != 8) {
                b.append(x.count(what)).append(' ');
            }
        }
        return b;
    }

    private static StringBuilder tellPeople(StringBuilder b, NinthDayHooded x) {
        int n = x.count(0);
        for (int p = 0; p < n; p++) {
            for (int k = 0; k < 6; k++) {
                b.append(x.of(p, k)).append(' ').append(x.lessons(p, k)).append(' ');
            }
            for (int q = 0; q < n; q++) {
                b.append(x.trusts(p, q)).append(' ').append(p == q ? 0 : x.cost(p, q)).append(' ');
            }
        }
        return b;
    }

    private static StringBuilder tellBook(StringBuilder b, NinthDayHooded x) {
        for (int p = 0; p < x.count(0); p++) {
            for (int k = 1; k <= 10; k++) {
                b.append(x.led(p, k)).append(' ');
            }
        }
        return b;
    }

    /** TASKS, WISHES, thefts and LIKES by what is answered of them. */
    private static StringBuilder tellRest(StringBuilder b, NinthDayHooded x) {
        for (int h = 0; h < 9; h++) {
            b.append(x.manned(h)).append(' ').append(x.row(0)).append(' ');
        }
        b.append(x.met()).append(' ').append(x.row(0)).append(' ');
        for (int i = 0; i < x.count(5); i++) {
            b.append(x.suspects(i)).append(' ').append(x.row(0)).append(' ');
        }
        for (int h = 0; h < 9; h++) {
            for (int p = 0; p < x.count(0); p++) {
                x.set(p, 0, h);
                b.append(x.of(p, 3)).append(' ');
            }
        }
        return b;
    }

    /** The act answers as is due, and all parts are as they are without it, the first with the row. */
    private static void dueNoChange(String what, Maker maker, Act act, int want, boolean rowToo) {
        for (int part = rowToo ? 0 : 1; part < PARTS; part++) {
            NinthDayHooded x = maker.make();
            int got = orThrows(() -> act.on(x));
            due(what, want, got);
            asked++;
            String without = told(maker.make(), part);
            String with = told(x, part);
            if (!with.equals(without)) {
                fail(what + " changes something: " + with + ", it was " + without);
            }
        }
    }

    /** A refused call: nothing changes, the row and THE TEXT neither. */
    private static void dueRefused(String what, int want, Act act) {
        dueNoChange(what, NinthDayHoodedBoundaries::rich, act, want, true);
    }

    /** A refused call that reads THE TEXT: it is empty then, and nothing else changes. */
    private static void dueRefusedText(String what, String text, int want, Act act) {
        Maker emptied = () -> {
            NinthDayHooded x = rich();
            x.end(0);
            return x;
        };
        dueNoChange(what + " of " + text, emptied, x -> act.on(type(x, text)), want, true);
    }

    /** A question: nothing changes but the row. */
    private static void dueQuestion(String what, Act act) {
        int answer = orThrows(() -> act.on(rich()));
        dueNoChange(what, NinthDayHoodedBoundaries::rich, act, answer, false);
        NinthDayHooded x = rich();
        orThrows(() -> act.on(x));
        asked++;
        String counts = tellCounts(new StringBuilder(), x).toString();
        String were = tellCounts(new StringBuilder(), rich()).toString();
        if (!counts.equals(were)) {
            fail(what + " changes counts " + were + " to " + counts);
        }
    }

    // ---- terms

    @Says("An object is used for at most 512 calls after it has been made")
    private static void termsFiveHundredTwelveCalls() {
        NinthDayHooded x = townOf("00p;10;20;30;40;50;60;70;80");
        for (int i = 0; i < 500; i++) {
            due("forty days", true, x.days(40) > 0);
        }
        due("now", 20000, x.count(1));
        due("20000 % 9 is 2", 4, x.count(2));
        due("the book", 30, x.count(6));
        due("the latest twelve", 12, x.count(7));
    }

    @Says("PEOPLE 0 .. (at most 9; written a .. i)")
    private static void termsNinePeople() {
        NinthDayHooded x = new NinthDayHooded();
        due("nine lines", 9, townText(x, NINE));
        due("the ninth", 8, x.of(8, 0));
        dueThrow("of a tenth", () -> x.of(9, 0));
        due("a tenth by a town", -1, townText(x, "00"));
        due("a tenth by a seed", NONE, x.comes(1));
        due("the ninth is i", 1, seasonText(x, "hi0"));
        due("the ninth has another hood", 0, x.of(8, 0));
        NinthDayHooded y = townOf("00");
        for (int i = 1; i < 9; i++) {
            due("one more", i, y.comes(i));
        }
        due("a tenth", NONE, y.comes(9));
        due("a tenth", -1, townText(y, "00"));
    }

    @Says("STREET 0 .. 8 (a ring: 8 is beside 0)")
    private static void termsStreetsAreARing() {
        NinthDayHooded x = townOf("00;18");
        due("8 is beside 0", 4, x.witness(0, 5));
        due("0 is beside 8", 4, x.witness(8, 5));
        due("7 is beside 8 alone", 2, x.witness(7, 5));
        due("1 is beside 0 alone", 2, x.witness(1, 5));
        due("they live one street apart", 9 - 1 + 1, x.cost(0, 1));
    }

    @Says("TRUST 0 .. 9 of each in each other (at first 1)")
    private static void termsTrustAtFirst() {
        NinthDayHooded x = townOf("00;10");
        x.comes(5);
        for (int p = 0; p < 3; p++) {
            for (int q = 0; q < 3; q++) {
                due("trusts(" + p + ", " + q + ")", p == q ? NONE : 1, x.trusts(p, q));
            }
        }
        trustText(x, 0, "009");
        due("the least", 0, x.trusts(0, 1));
        due("the greatest", 9, x.trusts(0, 2));
        townText(x, "00");
        due("in a newcomer", 1, x.trusts(0, 3));
        due("of a newcomer", 1, x.trusts(3, 0));
    }

    @Says("LIKES 0 .. 9 of each for HOODS 0 .. 8 (at first 0)")
    private static void termsLikesAtFirst() {
        NinthDayHooded x = townOf("00");
        x.comes(5);
        for (int h = 0; h <= 8; h++) {
            x.set(0, 0, h);
            x.set(1, 0, h);
            due("likes of hood " + h, 0, x.of(0, 3));
            due("a newcomer's likes of hood " + h, 0, x.of(1, 3));
        }
        likesText(x, 0, "900000008");
        due("of hood 8", 8, x.of(0, 3));
        x.set(0, 0, 0);
        due("of hood 0", 9, x.of(0, 3));
    }

    @Says("THE TOWN is a text of at most 76 signs: LINES with ; between, each one of PEOPLE more")
    private static void termsTownOf76Signs() {
        String eight = "12pqrstu;".repeat(8);
        NinthDayHooded x = new NinthDayHooded();
        due("77 signs", -1 - 76, townText(x, eight + "12pqr"));
        due("nobody", 0, x.count(0));
        due("76 signs", 9, townText(x, eight + "12pq"));
        due("nine", 9, x.count(0));
        due("no ; behind the last line", -1 - 3, townText(townOf("00"), "00;"));
        due("no ; ahead of the first", -1, townText(townOf("00"), ";00"));
        due("one ; alone between", -1 - 3, townText(townOf("00"), "00;;11"));
    }

    @Says("HOOD, STREET (digits 0 .. 8)")
    private static void termsTownDigits() {
        NinthDayHooded x = new NinthDayHooded();
        due("the greatest hood, the least street", 1, townText(x, "80"));
        due("the least hood, the greatest street", 1, townText(x, "08"));
        due("hood", 8, x.of(0, 0));
        due("street", 0, x.of(0, 1));
        due("hood", 0, x.of(1, 0));
        due("street", 8, x.of(1, 1));
        due("hood 9", -1, townText(x, "90"));
        due("street 9", -2, townText(x, "09"));
        due("a sign ahead of 0", -1, townText(x, "/0"));
        due("a sign ahead of 0", -2, townText(x, "0/"));
    }

    @Says("then 0 to 6 letters p q r s t u (TRADES 0 .. 5, rising)")
    private static void termsTownLetters() {
        NinthDayHooded x = new NinthDayHooded();
        due("no letter, six letters", 2, townText(x, "00;00pqrstu"));
        due("no trades", 0, x.of(0, 2));
        due("all trades", 63, x.of(1, 2));
        due("one letter each", 6, townText(x, "00p;00q;00r;00s;00t;00u"));
        for (int t = 0; t < 6; t++) {
            due("trade " + t, 1 << t, x.of(2 + t, 2));
        }
        due("a letter ahead of p", -3, townText(x, "00o"));
        due("a letter behind u", -3, townText(x, "00v"));
        due("a great letter", -3, townText(x, "00P"));
        due("a seventh letter", -9, townText(x, "00pqrstuv"));
    }

    @Says("DAYS are counted: NOW (at first 0).")
    private static void termsNowAtFirst() {
        NinthDayHooded x = townOf(FOUR);
        due("at first", 0, x.count(1));
        x.day();
        due("behind a day", 1, x.count(1));
        x.days(40);
        due("behind 40 more", 41, x.count(1));
    }

    @Says("In DAY d all with HOOD d % 9 are HOODED, the others SEE.")
    private static void termsHoodedEachNinthDay() {
        NinthDayHooded x = townOf("80;00");
        int[] days = {0, 1, 7, 8, 9, 17, 18, 998, 999};
        int[] hooded = {2, 0, 0, 1, 2, 1, 2, 1, 2};
        for (int i = 0; i < days.length; i++) {
            x.guides(days[i]);
            due("who is hooded in day " + days[i], hooded[i], x.row(1));
        }
        x.days(8);
        due("in day 8", 1, x.count(2));
        x.day();
        due("in day 9", 2, x.count(2));
        x.day();
        due("in day 10", 0, x.count(2));
    }

    @Says("THE RULE is a text of at most 40 signs (at first none: 9-t+r).")
    private static void termsRuleAtFirst() {
        NinthDayHooded x = townOf("00;14");
        due("t is 1, r is 4", 12, x.cost(0, 1));
        trustText(x, 0, "09");
        due("t is 9, r is 4", 4, x.cost(0, 1));
        x.set(1, 1, 0);
        due("t is 9, r is 0", 0, x.cost(0, 1));
        due("40 signs", 0, ruleText(x, "1+".repeat(19) + "12"));
        due("it is the rule", 31, x.cost(0, 1));
        due("41 signs", -1 - 40, ruleText(x, "1+".repeat(19) + "123"));
        due("the rule stays", 31, x.cost(0, 1));
    }

    @Says("< > = bind least (two; 1 or 0; not one behind the other)")
    private static void termsComparisons() {
        dueCosts(texts("1<2", "2<2", "3<2", "1>2", "2>2", "3>2", "1=2", "2=2", "3=2"), 1, 0, 0, 0, 0, 1, 0, 1, 0);
        dueCosts(texts("1+1<1+2", "5>2+3", "2*3=3+3", "4-1=6/2", "-1<0"), 1, 0, 1, 1, 1);
        dueCosts(texts("1<2<3", "1=1=1", "3>2<1", "1<2+3<9", "(1<2<3)"), -4, -4, -4, -6, -5);
        dueCosts(texts("(1<2)<3", "3>(2>1)", "(1=1)=(2=2)", "(1<2)+(2<3)<3"), 1, 1, 1, 1);
    }

    @Says("then + - (from the left)")
    private static void termsSumsFromTheLeft() {
        dueCosts(texts("9-3-2", "9-3+2", "9-(3-2)", "9-(3+2)", "50-3-2-1+4"), 4, 8, 8, 4, 48);
    }

    @Says("then * / (from the left; by 0: 0; cut to 0)")
    private static void termsProductsFromTheLeft() {
        dueCosts(texts("40/4*5", "40/4/5", "40/(4*5)", "7/2*2", "2+3*4", "20-6/3"), 50, 2, 2, 6, 14, 18);
    }

    @Says("by 0: 0;")
    private static void termsDividedByZero() {
        dueCosts(texts("7+5/0", "7+0/0", "7+-5/0", "7+5/(t-3)", "7+8/i", "5/0*3+2", "7+5/0/0"), 7, 7, 7, 7, 7, 2, 7);
    }

    @Says("cut to 0)")
    private static void termsQuotientsAreCutToZero() {
        dueCosts(texts("9+7/2", "9+-7/2", "9+7/-2", "9+-7/-2", "9+1/2", "9+-1/2", "9-(1-8)/2"), 12, 6, 6, 12, 9, 9, 12);
    }

    @Says("then - ahead of a thing (any many)")
    private static void termsMinusAheadOfAThing() {
        dueCosts(texts("-t+9", "--7", "---7+9", "9--7", "9---7", "2*-3+9", "9/-3+9", "-(2-9)", "9+-(2)"), 6, 7, 2, 16, 2, 3, 6, 7, 7);
        dueCosts(texts("-".repeat(39) + "7", "-".repeat(38) + "77", "9-" + "-".repeat(37) + "7"), 0, 77, 16);
        dueCosts(texts("+7", "*7", "/7", "<7", "-*7", "9+*7"), -1, -1, -1, -1, -2, -3);
    }

    @Says("things: a NUMBER of 1 to 3 digits")
    private static void termsNumbers() {
        dueCosts(texts("0", "7", "77", "099", "007", "000", "900-899"), 0, 7, 77, 99, 7, 0, 1);
        dueCosts(texts("1000", "0000", "7-1000", "(1000)", "t1", "1t", "5+t1", "(5)1"), -4, -4, -6, -5, -2, -2, -4, -4);
        dueCosts(texts(":", "5:", "/", "55/", "5."), -1, -2, -1, -4, -2);
    }

    @Says("an EXPRESSION in ( ) (at most 4 in one another)")
    private static void termsBrackets() {
        dueCosts(texts("(7)", "((((7))))", "((((7))))+((((8))))", "(((7)+1)+(1+(1)))", "-((((-7))))"), 7, 7, 15, 10, 7);
        dueCosts(texts("(((((7)))))", "((((7+(8)))))", "((((7))))+(((((", "()", "(7))", ")", "7)", "7("), -5, -7, -15, -2, -4, -1, -2, -2);
    }

    @Says("t TRUST of the first in the second, u of the second in the first")
    private static void termsTrustBothWays() {
        dueCosts(texts("t", "u", "t*10+u"), 3, 5, 35);
    }

    @Says("r how many STREETS apart they live (the shorter way round)")
    private static void termsStreetsApart() {
        NinthDayHooded x = townOf("00;00");
        ruleText(x, "r");
        int[] apart = {0, 1, 2, 3, 4, 4, 3, 2, 1};
        for (int a = 0; a <= 8; a++) {
            for (int b = 0; b <= 8; b++) {
                x.set(0, 1, a);
                x.set(1, 1, b);
                due("streets " + a + " and " + b, apart[Math.abs(a - b)], x.cost(0, 1));
            }
        }
    }

    @Says("k how many TRADES of the second the first has not")
    private static void termsTradesItHasNot() {
        NinthDayHooded x = townOf("00p;00pqr");
        ruleText(x, "k");
        due("q and r", 2, x.cost(0, 1));
        due("none", 0, x.cost(1, 0));
        x.set(0, 2, 0);
        x.set(1, 2, 63);
        due("all", 6, x.cost(0, 1));
    }

    @Says("d DAY % 9, i the first's number, j the second's.")
    private static void termsDayAndNumbers() {
        NinthDayHooded x = townOf(NINE);
        ruleText(x, "d*10+1");
        x.days(8);
        due("day 8", 81, x.cost(0, 1));
        x.day();
        due("day 9", 1, x.cost(0, 1));
        ruleText(x, "i*10+j");
        due("i and j", 8, x.cost(0, 8));
        due("i and j", 80, x.cost(8, 0));
    }

    @Says("As ints, put to 0 .. 99: COST.")
    private static void termsCostIsAnInt() {
        dueCosts(texts("256*256*256*128", "256*256*256*128-1", "256*256*256*256+7", "-(256*256*256*128)"), 0, 99, 7, 0);
        dueCosts(texts("256*256*256*128/-1", "256*256*256*128/-1<0", "256*256*256*255"), 0, 1, 0);
        dueCosts(texts("98", "99", "100", "999", "1", "0", "0-1", "0-999", "-1"), 98, 99, 99, 99, 1, 0, 0, 0, 0);
        due("parts are not put", 7, costBy("999-992"));
        due("nor below 0", 7, costBy("0-9+16"));
    }

    @Says("each that is HOODED is led by one that SEES and in whom it has TRUST of 1 or more, or by nobody")
    private static void termsWhoLeads() {
        NinthDayHooded x = townOf("00;10");
        trustText(x, 0, "00");
        due("trust 0", 1, x.guides(0));
        dueRow("trust 0", x, 0, 1, -1);
        trustText(x, 0, "01");
        due("trust 1", 0, x.guides(0));
        dueRow("trust 1", x, 8, 1, 1);
        trustText(x, 1, "00");
        due("the guide's own trust does not matter", 0, x.guides(0));
        x.set(1, 0, 0);
        due("one that is hooded leads nobody", 2, x.guides(0));
        dueRow("both by nobody", x, 0, 3, -1, -1);
    }

    @Says("one leads two at most")
    private static void termsOneLeadsTwo() {
        NinthDayHooded x = townOf("00;00;10");
        due("two", 0, x.guides(0));
        dueRow("two", x, 16, 3, 2, 2);
        NinthDayHooded y = townOf("00;00;00;10");
        due("three", 1, y.guides(0));
        dueRow("three", y, 16, 7, 3, 3, -1);
    }

    @Says("those by which the fewest are led by nobody, of these the least COST in all")
    private static void termsFewestThenLeastCost() {
        NinthDayHooded x = townOf("00;00;00;10;20");
        ruleText(x, "(i=0)*(j=4)*99");
        trustText(x, 1, "11110");
        trustText(x, 2, "11110");
        due("dear, but all are led", 0, x.guides(0));
        dueRow("dear, but all are led", x, 99, 7, 4, 3, 3);
        trustText(x, 1, "11111");
        due("the least cost", 0, x.guides(0));
        dueRow("c trusts d alone of those that see", x, 0, 7, 3, 4, 3);
        trustText(x, 2, "11111");
        ruleText(x, "(j=3)*9+(i=2)*(j=4)*5+1");
        x.guides(0);
        dueRow("a and b by e, though c by e costs 6 and by d 10", x, 1 + 1 + 10, 7, 4, 4, 3);
    }

    @Says("of equal ones the least row (of those HOODED, by numbers, their GUIDES; NONE: nobody, the greatest of all here)")
    private static void termsLeastRowOfGuides() {
        NinthDayHooded x = townOf("00;10;00;20;00");
        ruleText(x, "5");
        due("three of them", 0, x.guides(0));
        dueRow("by numbers", x, 15, 21, 1, 1, 3);
        x.set(3, 0, 0);
        due("four of them", 2, x.guides(0));
        dueRow("nobody comes last", x, 10, 29, 1, 1, -1, -1);
        trustText(x, 0, "10111");
        due("a trusts none that sees", 2, x.guides(0));
        dueRow("the others as early as can be", x, 10, 29, -1, 1, 1, -1);
    }

    @Says("each that is led by one with TRADES that it has not has one more LESSON in the first of these")
    private static void termsFirstLesson() {
        NinthDayHooded x = townOf("00p;10pqs");
        x.day();
        int[] lessons = {0, 1, 0, 0, 0, 0};
        for (int t = 0; t < 6; t++) {
            due("lessons in trade " + t, lessons[t], x.lessons(0, t));
        }
        NinthDayHooded y = townOf("00pq;10pq");
        y.day();
        due("nothing new", 0, y.lessons(0, 0) + y.lessons(0, 1) + y.of(0, 5));
        NinthDayHooded z = townOf("00;10p");
        trustText(z, 0, "00");
        z.day();
        due("led by nobody", 0, z.lessons(0, 0));
    }

    @Says("with the third LESSON in a TRADE, or one behind it, it has that")
    private static void termsThirdLesson() {
        NinthDayHooded x = townOf("00;10p");
        x.days(10);
        due("two lessons", 2, x.lessons(0, 0));
        due("it has it not", 0, x.of(0, 2));
        x.days(9);
        due("three lessons", 3, x.lessons(0, 0));
        due("it has it", 1, x.of(0, 2));
        x.days(9);
        due("no fourth, as it has it", 3, x.lessons(0, 0));
        x.set(0, 2, 0);
        due("it has it not", 0, x.of(0, 2));
        x.days(9);
        due("one behind the third", 4, x.lessons(0, 0));
        due("it has it", 1, x.of(0, 2));
    }

    @Says("THE BOOK: of the last 30 DAYS that went by who was led by whom.")
    private static void termsBookOfThirtyDays() {
        NinthDayHooded x = townOf("00;10");
        x.days(29);
        due("29 days", 29, x.count(6));
        due("30 days ago is not known", -4, x.led(0, 30));
        x.day();
        due("30 days", 30, x.count(6));
        due("30 days ago was day 0", 1, x.led(0, 30));
        x.day();
        due("31 days", 30, x.count(6));
        due("30 days ago was day 1", 0, x.led(1, 30));
        due("day 0 is out", -2, x.led(0, 30));
        due("day 0 is out of all days of the book", 3, x.leads(1));
    }

    @Says("TASKS 0 .. (at most 6): a TRADE, NEED 1 .. 3.")
    private static void termsSixTasks() {
        NinthDayHooded x = townOf(FOUR);
        for (int i = 0; i < 6; i++) {
            due("task " + i, i, x.task(5, 3));
        }
        due("what all six need", 18, x.manned(0));
        due("a seventh", -2, x.task(5, 3));
        due("it does not count", 18, x.manned(0));
        due("six", 6, x.count(3));
    }

    @Says("if all TASKS can have as many as they NEED of PEOPLE that SEE then with that TRADE, nobody for two.")
    private static void termsNobodyForTwoTasks() {
        NinthDayHooded x = townOf("00pq;10r");
        x.task(0, 1);
        due("manned", 0, x.manned(8));
        due("it does not see", 1, x.manned(0));
        x.task(1, 1);
        due("not for two", 1, x.manned(8));
        x.done();
        x.task(0, 1);
        due("not for two of one trade", 1, x.manned(8));
        x.done();
        x.task(2, 1);
        due("two for two", 0, x.manned(8));
    }

    @Says("WISHES 0 .. (at most 12): two of PEOPLE, to have one HOOD (1), or two (0).")
    private static void termsTwelveWishes() {
        NinthDayHooded x = townOf("00;00;10");
        for (int i = 1; i <= 12; i++) {
            due("wish " + i, i, x.wish(0, 1 + i % 2, i % 2));
        }
        due("a thirteenth", -2, x.wish(0, 1, 1));
        due("twelve", 12, x.count(4));
        due("odd ones wish one hood with c, even ones two with b", 0, x.met());
        x.swap(1, 2);
        due("all are met", 12, x.met());
        dueRow("all are met", x, 4095);
    }

    @Says("ROW: numbers told last by a call that says so.")
    private static void termsRowToldLast() {
        NinthDayHooded x = townOf(FOUR);
        due("none at first", 0, x.count(8));
        x.guides(0);
        dueRow("guides", x, 9 + 8, 3, 2, 2);
        x.blindest();
        dueRow("a shorter one", x, 2);
        x.set(0, 0, 0);
        x.needed();
        x.gain(0, 1);
        x.ferry(0, 1, 1);
        x.dark(0, 5, 9);
        x.undo();
        x.swap(0, 1);
        x.keep(0);
        x.again(0);
        x.comes(1);
        x.sheet(2, 1, 1, 1);
        x.theft(0, 0);
        x.task(0, 1);
        x.wish(0, 1, 1);
        x.done();
        x.forget();
        x.pardon();
        townText(x, "00");
        dueRow("calls that do not say so leave it", x, 2);
    }

    @Says("-2: they can't be met;")
    private static void termsRowStaysWhereNoneIsTold() {
        // Only learns() says that a row is told with -2; these do not, so that the row told last stays.
        NinthDayHooded x = townOf(FOUR);
        x.task(5, 3);
        x.wish(0, 1, 0);
        x.wish(0, 1, 1);
        x.witness(0, 0);
        Act[] calls = {y -> y.mends(), y -> y.mend(), y -> y.colours(), y -> y.ring(), y -> y.turn(), y -> y.friend(4), y -> y.dark(0, 0, 9)};
        for (int i = 0; i < calls.length; i++) {
            due("call " + i, -2, calls[i].on(x));
            dueRow("call " + i, x, 4 + 8, 1 + 2);
        }
    }

    @Says("ROW: numbers told last")
    private static void termsRowHoldsNoOlderNumbers() {
        Act[] calls = {x -> x.guides(0), x -> x.lonely(0), x -> x.hardest(), x -> x.day(), x -> x.days(2), x -> x.season(), x -> x.leads(0),
            x -> x.ahead(1), x -> x.learns(0, 0), x -> x.manned(0), x -> x.bare(), x -> x.blindest(), x -> x.mends(), x -> x.mend(),
            x -> x.newcomer(0), x -> x.met(), x -> x.please(), x -> x.colours(), x -> x.friend(0), x -> x.ring(), x -> x.turn(),
            x -> x.rests(), x -> x.liked(), x -> x.suspects(0), x -> x.thief(), x -> x.witness(0, 0)};
        int[] sizes = {3, 1, 2, 2, 2, 2, 2, 5, 1, 1, 1, 1, 2, 2, 1, 1, 2, 3, 2, 2, 2, 3, 1, 1, 2, 2};
        for (int i = 0; i < calls.length; i++) {
            NinthDayHooded x = townOf("00;10p;10p");
            x.task(0, 1);
            x.theft(0, 0);
            likesText(x, 0, "010000000");
            likesText(x, 1, "100000000");
            for (int k = 0; k < 3; k++) {
                x.ahead(0);
                due("ahead(0)", 5, x.count(8));
            }
            calls[i].on(x);
            due("numbers of the row behind call " + i, sizes[i], x.count(8));
        }
    }

    @Says("Rows of numbers are compared from the first on.")
    private static void termsRowsAreCompared() {
        NinthDayHooded x = townOf("00;10;20;30");
        likesText(x, 0, "000100000");
        likesText(x, 1, "001000000");
        likesText(x, 2, "010000000");
        likesText(x, 3, "100000000");
        due("a ring of a and d, one of b and c", 2, x.ring());
        dueRow("0, 3 is less than 1, 2", x, 0, 3);
    }

    @Says("Sets of PEOPLE are bits.")
    private static void termsSetsAreBits() {
        NinthDayHooded x = townOf(NINE);
        x.witness(8, 500);
        dueRow("500 % 9 is 5: a, h and i see", x, 1 + 128 + 256, 0);
        x.days(8);
        due("i alone", 256, x.count(2));
    }

    @Says("Questions change nothing, if it is not said.")
    private static void termsQuestionsChangeNothing() {
        dueQuestion("of", x -> x.of(0, 3));
        dueQuestion("trusts", x -> x.trusts(0, 1));
        dueQuestion("lessons", x -> x.lessons(0, 0));
        dueQuestion("cost", x -> x.cost(0, 1));
        dueQuestion("guides", x -> x.guides(9));
        dueQuestion("lonely", x -> x.lonely(9));
        dueQuestion("hardest", x -> x.hardest());
        dueQuestion("led", x -> x.led(0, 3));
        dueQuestion("leads", x -> x.leads(2));
        dueQuestion("ahead", x -> x.ahead(40));
        dueQuestion("learns", x -> x.learns(3, 2));
        dueQuestion("manned", x -> x.manned(0));
        dueQuestion("bare", x -> x.bare());
        dueQuestion("blindest", x -> x.blindest());
        dueQuestion("mends", x -> x.mends());
        dueQuestion("newcomer", x -> x.newcomer(5));
        dueQuestion("needed", x -> x.needed());
        dueQuestion("gain", x -> x.gain(0, 1));
        dueQuestion("ferry", x -> x.ferry(0, 1, 2));
        dueQuestion("met", x -> x.met());
        dueQuestion("please", x -> x.please());
        dueQuestion("colours", x -> x.colours());
        dueQuestion("friend", x -> x.friend(0));
        dueQuestion("ring", x -> x.ring());
        dueQuestion("rests", x -> x.rests());
        dueQuestion("liked", x -> x.liked());
        dueQuestion("suspects", x -> x.suspects(0));
        dueQuestion("thief", x -> x.thief());
        dueQuestion("witness", x -> x.witness(0, 5));
        dueQuestion("dark", x -> x.dark(0, 3, 9));
        dueQuestion("count", x -> x.count(0));
        dueQuestion("row", x -> x.row(0));
    }

    @Says("Refused calls answer NONE, or false, and change nothing but THE TEXT")
    private static void termsRefusedCallsChangeNothing() {
        refusedOfTheTown();
        refusedOfDays();
        refusedOfTasksAndWishes();
        refusedOfTheRest();
    }

    private static void refusedOfTheTown() {
        dueRefused("end(4)", 0, x -> bit(x.end(4)));
        dueRefused("end(-1)", 0, x -> bit(x.end(-1)));
        dueRefused("of(4, 0)", THROWS, x -> x.of(4, 0));
        dueRefused("of(0, 6)", THROWS, x -> x.of(0, 6));
        dueRefused("trusts(0, 0)", NONE, x -> x.trusts(0, 0));
        dueRefused("trusts(0, 4)", NONE, x -> x.trusts(0, 4));
        dueRefused("lessons(4, 0)", NONE, x -> x.lessons(4, 0));
        dueRefused("lessons(0, 6)", NONE, x -> x.lessons(0, 6));
        dueRefused("set(4, 0, 0)", NONE, x -> x.set(4, 0, 0));
        dueRefused("set(0, 0, 9)", NONE, x -> x.set(0, 0, 9));
        dueRefused("set(0, 1, 9)", NONE, x -> x.set(0, 1, 9));
        dueRefused("set(0, 2, 64)", NONE, x -> x.set(0, 2, 64));
        dueRefused("set(0, 3, 0)", NONE, x -> x.set(0, 3, 0));
        dueRefused("sheet(4, 1, 1, 1)", NONE, x -> x.sheet(4, 1, 1, 1));
        dueRefused("sheet(2, 10, 1, 1)", NONE, x -> x.sheet(2, 10, 1, 1));
        dueRefused("sheet(3, 10, 1, 1)", NONE, x -> x.sheet(3, 10, 1, 1));
        dueRefused("sheet(2, -1, 1, 1)", -2, x -> x.sheet(2, -1, 1, 1));
    }

    private static void refusedOfDays() {
        dueRefused("cost(0, 0)", THROWS, x -> x.cost(0, 0));
        dueRefused("cost(0, 4)", THROWS, x -> x.cost(0, 4));
        dueRefused("guides(1000)", NONE, x -> x.guides(1000));
        dueRefused("lonely(-1)", NONE, x -> x.lonely(-1));
        dueRefused("days(41)", NONE, x -> x.days(41));
        dueRefused("days(-1)", NONE, x -> x.days(-1));
        dueRefused("led(0, 31)", NONE, x -> x.led(0, 31));
        dueRefused("leads(4)", NONE, x -> x.leads(4));
        dueRefused("ahead(41)", NONE, x -> x.ahead(41));
        dueRefused("learns(0, 6)", NONE, x -> x.learns(0, 6));
    }

    private static void refusedOfTasksAndWishes() {
        dueRefused("task(6, 1)", NONE, x -> x.task(6, 1));
        dueRefused("task(0, 4)", NONE, x -> x.task(0, 4));
        dueRefused("manned(9)", NONE, x -> x.manned(9));
        dueRefused("newcomer(64)", NONE, x -> x.newcomer(64));
        dueRefused("gain(0, 0)", THROWS, x -> x.gain(0, 0));
        dueRefused("ferry(0, 9, 1)", NONE, x -> x.ferry(0, 9, 1));
        dueRefused("wish(0, 0, 1)", NONE, x -> x.wish(0, 0, 1));
        dueRefused("wish(0, 1, 2)", NONE, x -> x.wish(0, 1, 2));
        dueRefused("friend(4)", -2, x -> x.friend(4));
        dueRefused("swap(0, 0)", 0, x -> bit(x.swap(0, 0)));
        dueRefused("swap(0, 4)", 0, x -> bit(x.swap(0, 4)));
    }

    private static void refusedOfTheRest() {
        dueRefused("theft(4, 0)", NONE, x -> x.theft(4, 0));
        dueRefused("theft(0, 1000)", NONE, x -> x.theft(0, 1000));
        dueRefused("suspects(2)", NONE, x -> x.suspects(2));
        dueRefused("witness(9, 0)", NONE, x -> x.witness(9, 0));
        dueRefused("dark(0, 21, 1)", NONE, x -> x.dark(0, 21, 1));
        dueRefused("keep(2)", 0, x -> bit(x.keep(2)));
        dueRefused("again(1)", 0, x -> bit(x.again(1)));
        dueRefused("again(2)", 0, x -> bit(x.again(2)));
        dueRefused("count(10)", NONE, x -> x.count(10));
        dueRefused("row(9)", THROWS, x -> x.row(9));
        Maker crowded = () -> {
            NinthDayHooded x = townOf(NINE);
            x.days(3);
            x.guides(0);
            return type(x, "00p");
        };
        dueNoChange("comes(1) of nine", crowded, x -> x.comes(1), NONE, true);
        dueNoChange("done() of none", crowded, x -> x.done(), NONE, true);
        Maker fresh = () -> type(townOf(FOUR), "00p");
        dueNoChange("undo() of none", fresh, x -> x.undo(), NONE, true);
    }

    @Says("THE TEXT, which a call that reads it empties")
    private static void termsReadingEmptiesTheText() {
        dueRefusedText("town()", "00;0x", -5, x -> x.town());
        dueRefusedText("trust(0)", "000", -4, x -> x.trust(0));
        dueRefusedText("trust(4)", "0000", -100, x -> x.trust(4));
        dueRefusedText("likes(0)", "123", -4, x -> x.likes(0));
        dueRefusedText("likes(4)", "123456789", -100, x -> x.likes(4));
        dueRefusedText("rule()", "t+", -3, x -> x.rule());
        dueRefusedText("season()", "d;x", -3, x -> x.season());
        String[] good = {"00", "00000", "123456789", "t", "d"};
        Act[] reads = {x -> x.town(), x -> x.trust(0), x -> x.likes(0), x -> x.rule(), x -> x.season()};
        NinthDayHooded y = townOf(FOUR);
        for (int i = 0; i < good.length; i++) {
            due("it is read", true, reads[i].on(type(y, good[i])) >= 0);
            due("it is empty behind " + good[i], 0, y.count(9));
        }
    }

    // ---- the town

    @Says("`NinthDayHooded()`: Nobody; it is DAY 0.")
    private static void p01NobodyAtDayZero() {
        NinthDayHooded x = new NinthDayHooded();
        for (int what = 0; what <= 9; what++) {
            due("count(" + what + ")", 0, x.count(what));
        }
        dueThrow("of(0, 0)", () -> x.of(0, 0));
        dueThrow("row(0)", () -> x.row(0));
        due("undo()", NONE, x.undo());
        due("again(0)", false, x.again(0));
        due("again(1)", false, x.again(1));
        due("NONE", -1, NinthDayHooded.NONE);
    }

    @Says("Four signs come behind THE TEXT, of v the highest byte first: how many it has.")
    private static void p02HighestByteFirst() {
        NinthDayHooded x = new NinthDayHooded();
        due("four", 4, x.sign('1' << 24 | '2' << 16 | 'p' << 8 | 'u'));
        due("eight", 8, x.sign(';' << 24 | '8' << 16 | '0' << 8 | 'r'));
        due("two lines", 2, x.town());
        due("hood", 1, x.of(0, 0));
        due("street", 2, x.of(0, 1));
        due("trades", 33, x.of(0, 2));
        due("hood of the second", 8, x.of(1, 0));
        due("bytes above 127", 4, x.sign(-1));
        due("it is no sign of a town", -1, x.town());
        x.sign(0xB0B03030);
        due("a byte without its highest bit is another one", -1, x.town());
    }

    @Says("Refused: there would be more than 80.")
    private static void p02EightySigns() {
        NinthDayHooded x = new NinthDayHooded();
        for (int i = 1; i <= 20; i++) {
            due("sign " + i, 4 * i, x.sign(0x30303030));
        }
        due("of 84", NONE, x.sign(0x31313131));
        for (int length = 79; length >= 77; length--) {
            x.end(length);
            due("behind " + length, NONE, x.sign(0x31313131));
            due("it has as many as before", length, x.count(9));
        }
        x.end(76);
        due("behind 76", 80, x.sign(0x31313131));
    }

    @Says("THE TEXT has its first n signs alone: true")
    private static void p03FirstSignsAlone() {
        NinthDayHooded x = new NinthDayHooded();
        x.sign(0x31327075);
        due("all of them", true, x.end(4));
        due("four", 4, x.count(9));
        due("three of them", true, x.end(3));
        due("three", 3, x.count(9));
        due("the first ones", 1, x.town());
        due("trades", 1, x.of(0, 2));
        x.sign(0x31327075);
        due("none of them", true, x.end(0));
        due("none", 0, x.count(9));
    }

    @Says("false if it has not so many, or n is below 0")
    private static void p03NotSoMany() {
        NinthDayHooded x = new NinthDayHooded();
        due("0 of none", true, x.end(0));
        due("1 of none", false, x.end(1));
        x.sign(0x31327075);
        due("5 of four", false, x.end(5));
        due("the most", false, x.end(Integer.MAX_VALUE));
        due("-1", false, x.end(-1));
        due("the least", false, x.end(Integer.MIN_VALUE));
        due("four stay", 4, x.count(9));
        x.end(2);
        due("what was cut is gone", false, x.end(3));
    }

    @Says("THE TEXT tells of THE TOWN (an empty one: nothing): how many LINES.")
    private static void p04EmptyTown() {
        NinthDayHooded x = new NinthDayHooded();
        due("nobody there", 0, x.town());
        due("nobody", 0, x.count(0));
        due("one line", 1, townText(x, "00"));
        due("two lines", 2, townText(x, "00;00"));
        due("three", 3, x.count(0));
        due("an empty one", 0, x.town());
        due("three", 3, x.count(0));
        due("an empty one of nine", 0, townOf(NINE).town());
    }

    @Says("its end, if it ends too early;")
    private static void p04EndsTooEarly() {
        String[] towns = {"0", "00;", "00;1", "00p;", "00pq;11;", "00pqrstu;8"};
        for (String town : towns) {
            NinthDayHooded x = new NinthDayHooded();
            due(town, -1 - town.length(), townText(x, town));
            due("nobody", 0, x.count(0));
        }
        NinthDayHooded eight = townOf("00;00;00;00;00;00;00;00");
        due("the last for which there is room", -1 - 1, townText(eight, "0"));
        due("a ; behind it", -1 - 3, townText(eight, "00;"));
    }

    @Says("76, if it has more and the first 76 could go on or end;")
    private static void p04MoreThan76() {
        String eight = "12pqrstu;".repeat(8);
        String[] towns = {eight + "12pqr", eight + "12pqx", eight + "12pq;", eight + "12pqrstu", eight + "12p;1", eight + "12tu9999"};
        for (String town : towns) {
            due(town, -1 - 76, townText(new NinthDayHooded(), town));
        }
        due("a fault at 75 is ahead", -1 - 75, townText(new NinthDayHooded(), eight + "12pp5"));
        due("no room at 75 is ahead", -1 - 75, townText(new NinthDayHooded(), eight + "12;5555"));
        due("a fault at 0 is ahead", -1, townText(new NinthDayHooded(), "x".repeat(80)));
        due("no room at 72 is ahead", -1 - 72, townText(townOf("00"), eight + "12pqr"));
    }

    @Says("a letter that does not rise: at it;")
    private static void p04LetterDoesNotRise() {
        due("the same", -1 - 3, townText(new NinthDayHooded(), "00pp"));
        due("a lesser one", -1 - 3, townText(new NinthDayHooded(), "00qp"));
        due("in the second line", -1 - 9, townText(new NinthDayHooded(), "00pqu;11ut"));
        due("behind the greatest", -1 - 8, townText(new NinthDayHooded(), "00pqrstuu"));
        due("a line begins anew", 2, townText(new NinthDayHooded(), "00u;00p"));
    }

    @Says("the first sign of a LINE for which there is no room)")
    private static void p04NoRoom() {
        NinthDayHooded seven = townOf("00;00;00;00;00;00;00");
        due("the third of three lines", -1 - 6, townText(seven, "00;11;22"));
        due("though it is no line", -1 - 6, townText(seven, "00;11;x"));
        due("a fault ahead of it", -1 - 4, townText(seven, "00;1x;22"));
        due("nobody came", 7, seven.count(0));
        due("two lines", 2, townText(seven, "00;11"));
        due("one for whom there is no room", -1, townText(seven, "00"));
        due("though it is no line", -1, townText(seven, "x"));
        due("ten lines", -1 - 27, townText(new NinthDayHooded(), NINE + ";00"));
    }

    @Says("Nothing of it comes, if a LINE can't.")
    private static void p04NothingComes() {
        NinthDayHooded x = townOf(FOUR);
        due("the second line", -1 - 4, townText(x, "33;39"));
        due("four", 4, x.count(0));
        due("the sixth line", -1 - 15, townText(x, "55;55;55;55;55;55"));
        due("four", 4, x.count(0));
        due("one comes", 1, townText(x, "22"));
        due("it is the fifth", 2, x.of(4, 0));
    }

    @Says("a digit for each (its own does not matter): how many.")
    private static void p05DigitForEach() {
        NinthDayHooded x = townOf("00;10;20");
        due("three", 3, trustText(x, 1, "905"));
        due("in a", 9, x.trusts(1, 0));
        due("in c", 5, x.trusts(1, 2));
        due("its own", NONE, x.trusts(1, 1));
        due("three", 3, trustText(x, 1, "095"));
        due("in a", 0, x.trusts(1, 0));
        due("its own", NONE, x.trusts(1, 1));
        due("others' is as it was", 1, x.trusts(0, 1));
        due("one alone", 1, trustText(townOf("00"), 0, "0"));
        due("nine", 9, trustText(townOf(NINE), 8, "123456789"));
    }

    @Says("the sign at p can't stand there (its end, if there are more PEOPLE; a sign more: at it)")
    private static void p05EndAndOneMore() {
        NinthDayHooded x = townOf(FOUR);
        trustText(x, 0, "5678");
        due("none", -1, trustText(x, 0, ""));
        due("three", -1 - 3, trustText(x, 0, "000"));
        due("five", -1 - 4, trustText(x, 0, "00000"));
        due("a fifth that is no digit", -1 - 4, trustText(x, 0, "0000x"));
        due("a sign ahead of 0", -1 - 1, trustText(x, 0, "0/00"));
        due("a sign behind 9", -1 - 3, trustText(x, 0, "000:"));
        due("a sign ahead of the end", -1 - 1, trustText(x, 0, "0x"));
        due("no digit for itself", -1, trustText(x, 0, "x000"));
        due("trust stays", 678, x.trusts(0, 1) * 100 + x.trusts(0, 2) * 10 + x.trusts(0, 3));
    }

    @Says("-100: none such (asked first).")
    private static void p05NoneSuch() {
        NinthDayHooded x = townOf(FOUR);
        due("4", -100, trustText(x, 4, "0000"));
        due("-1", -100, trustText(x, -1, "0000"));
        due("ahead of a wrong sign", -100, trustText(x, 4, "x"));
        due("ahead of its end", -100, trustText(x, 9, ""));
        due("nobody there", -100, trustText(new NinthDayHooded(), 0, ""));
    }

    @Says("THE TEXT is LIKES of one: nine digits, for HOODS 0 .. 8: 9.")
    private static void p06NineDigits() {
        NinthDayHooded x = townOf("00;00");
        due("nine", 9, likesText(x, 1, "987654320"));
        int[] likes = {9, 8, 7, 6, 5, 4, 3, 2, 0};
        for (int h = 0; h <= 8; h++) {
            x.set(1, 0, h);
            x.set(0, 0, h);
            due("of hood " + h, likes[h], x.of(1, 3));
            due("another one's", 0, x.of(0, 3));
        }
    }

    @Says("(its end, if it ends too early; a tenth sign: at it)")
    private static void p06EndAndTenthSign() {
        NinthDayHooded x = townOf(FOUR);
        likesText(x, 0, "555555555");
        due("none", -1, likesText(x, 0, ""));
        due("eight", -1 - 8, likesText(x, 0, "00000000"));
        due("ten", -1 - 9, likesText(x, 0, "0000000000"));
        due("a tenth that is no digit", -1 - 9, likesText(x, 0, "000000000x"));
        due("a sign ahead of 0", -1 - 8, likesText(x, 0, "00000000/"));
        due("a sign behind 9", -1, likesText(x, 0, ":00000000"));
        due("a sign ahead of the end", -1 - 2, likesText(x, 0, "00x"));
        for (int h = 0; h <= 8; h++) {
            x.set(0, 0, h);
            due("likes stay", 5, x.of(0, 3));
        }
    }

    @Says("-100: none such (asked first). ## Promise 7")
    private static void p06NoneSuch() {
        NinthDayHooded x = townOf(FOUR);
        due("4", -100, likesText(x, 4, "000000000"));
        due("-1", -100, likesText(x, -1, "000000000"));
        due("ahead of a wrong sign", -100, likesText(x, 4, "x"));
        due("ahead of its end", -100, likesText(x, 4, ""));
        due("nobody there", -100, likesText(new NinthDayHooded(), 0, "000000000"));
    }

    @Says("THE TEXT is THE RULE (an empty one: none): 0.")
    private static void p07EmptyRule() {
        NinthDayHooded x = townOf("00;10");
        due("a rule", 0, ruleText(x, "42"));
        due("by it", 42, x.cost(0, 1));
        due("an empty one", 0, x.rule());
        due("9-t+r", 8, x.cost(0, 1));
        due("nobody there", 0, new NinthDayHooded().rule());
    }

    @Says("-1 - p: as town() (40 signs).")
    private static void p07EndsTooEarly() {
        String[] rules = {"t+", "t*", "t<", "-", "(", "(t", "((t)", "t-(", "5=-", "1+(2*(3-4)", "1+".repeat(20)};
        NinthDayHooded x = townOf("00;10");
        ruleText(x, "42");
        for (String rule : rules) {
            due(rule, -1 - rule.length(), ruleText(x, rule));
            due("the rule stays", 42, x.cost(0, 1));
        }
    }

    @Says("`int rule()`: THE TEXT is THE RULE (an empty one: none): 0. -1 - p: as town() (40 signs).")
    private static void p07MoreThan40() {
        NinthDayHooded x = townOf("00;10");
        ruleText(x, "42");
        String[] rules = {"1+".repeat(19) + "123", "1+".repeat(20) + "1", "1+".repeat(20) + "x", "1+".repeat(19) + "12x",
            "-".repeat(80), "(-(-".repeat(2) + "-".repeat(33), "1+".repeat(40), "1+".repeat(18) + "(12)+1"};
        for (String rule : rules) {
            due(rule, -1 - 40, ruleText(x, rule));
        }
        due("a fault at 39 is ahead", -1 - 39, ruleText(x, "1+".repeat(19) + "1x3"));
        due("a fault at 0 is ahead", -1, ruleText(x, "x".repeat(80)));
        due("the rule stays", 42, x.cost(0, 1));
        due("40 signs", 0, ruleText(x, "1+".repeat(19) + "12"));
    }

    @Says("-1 - p: as town()")
    private static void p07SignsThatCannotStand() {
        String[] rules = {"x", "T", " t", "t ", "tt", "t(", "()", "t)", "2x", "t+)", "(t+)", "t;", "(1)2", "1.5", "t\u00ffu", "\u00fft",
            "\u0000", "t\u0000"};
        int[] at = {0, 0, 0, 1, 1, 1, 1, 1, 1, 2, 3, 1, 3, 1, 1, 0, 0, 1};
        NinthDayHooded x = townOf("00;10");
        for (int i = 0; i < rules.length; i++) {
            due("rule " + rules[i], -1 - at[i], ruleText(x, rules[i]));
        }
        due("none of them is the rule", 8, x.cost(0, 1));
    }

    @Says("3: what it LIKES its HOOD, 4: in how many DAYS it is HOODED next (0: in this one)")
    private static void p08HoodedNext() {
        NinthDayHooded x = townOf("00;10;80");
        due("in this one", 0, x.of(0, 4));
        due("in the next one", 1, x.of(1, 4));
        due("in 8", 8, x.of(2, 4));
        x.day();
        due("it was the last one", 8, x.of(0, 4));
        due("in this one", 0, x.of(1, 4));
        x.days(8);
        due("day 9", 0, x.of(0, 4));
        due("day 9", 8, x.of(2, 4));
    }

    @Says("5: LESSONS in all, in TRADES it has not.")
    private static void p08LessonsInTradesItHasNot() {
        NinthDayHooded x = townOf("00;10pq");
        due("none", 0, x.of(0, 5));
        x.days(10);
        due("two in p", 2, x.of(0, 5));
        x.set(0, 2, 1);
        due("it has p", 0, x.of(0, 5));
        x.days(9);
        due("one in q", 1, x.of(0, 5));
        x.set(0, 2, 0);
        due("both", 3, x.of(0, 5));
        NinthDayHooded last = townOf("00u;10;20");
        ruleText(last, "j");
        last.days(3);
        due("the last one's", 1, last.of(2, 5));
        due("the first one's", 0, last.of(0, 5));
    }

    @Says("NoSuchElementException: none such, another what.")
    private static void p08NoneSuch() {
        NinthDayHooded x = townOf(FOUR);
        dueThrow("of(4, 0)", () -> x.of(4, 0));
        dueThrow("of(-1, 0)", () -> x.of(-1, 0));
        dueThrow("of(9, 0)", () -> x.of(9, 0));
        dueThrow("of(0, 6)", () -> x.of(0, 6));
        dueThrow("of(0, -1)", () -> x.of(0, -1));
        dueThrow("of(MAX, MIN)", () -> x.of(Integer.MAX_VALUE, Integer.MIN_VALUE));
        int[] last = {4, 8, 1, 0, 4, 0};
        for (int what = 0; what <= 5; what++) {
            due("of(3, " + what + ")", last[what], x.of(3, what));
        }
    }

    @Says("TRUST of one in another one. NONE: none such, like ones.")
    private static void p09NoneSuch() {
        NinthDayHooded x = townOf(FOUR);
        trustText(x, 3, "2340");
        due("trusts(3, 0)", 2, x.trusts(3, 0));
        due("trusts(3, 2)", 4, x.trusts(3, 2));
        due("trusts(0, 3)", 1, x.trusts(0, 3));
        due("like ones", NONE, x.trusts(3, 3));
        due("none such", NONE, x.trusts(4, 0));
        due("none such", NONE, x.trusts(0, 4));
        due("none such", NONE, x.trusts(-1, 0));
        due("none such", NONE, x.trusts(0, -1));
    }

    @Says("LESSONS one has in a TRADE. NONE: others.")
    private static void p10Others() {
        NinthDayHooded x = townOf("00;10u");
        x.day();
        due("the last trade", 1, x.lessons(0, 5));
        due("the first trade", 0, x.lessons(0, 0));
        due("the last of them", 0, x.lessons(1, 0));
        NinthDayHooded last = townOf("00tu;11;22;33;44;55;66;77;88");
        ruleText(last, "j");
        last.days(9);
        due("the last of nine", 1, last.lessons(8, 4));
        due("in the last trade", 0, last.lessons(8, 5));
        due("of the first", 0, last.lessons(0, 4));
        due("trade 6", NONE, x.lessons(0, 6));
        due("trade -1", NONE, x.lessons(0, -1));
        due("none such", NONE, x.lessons(2, 0));
        due("none such", NONE, x.lessons(-1, 0));
    }

    @Says("HOOD (what 0; 0 .. 8), STREET (1; 0 .. 8), TRADES (2; bits 0 .. 63) of one becomes v: what it was.")
    private static void p11LeastAndGreatest() {
        NinthDayHooded x = townOf("33pq");
        int[] was = {3, 3, 3};
        int[] greatest = {8, 8, 63};
        for (int what = 0; what <= 2; what++) {
            due("the least of " + what, was[what], x.set(0, what, 0));
            due("it is", 0, x.of(0, what));
            due("the greatest of " + what, 0, x.set(0, what, greatest[what]));
            due("it is", greatest[what], x.of(0, what));
            due("what it was", greatest[what], x.set(0, what, 1));
        }
    }

    @Says("what it was. Refused: others.")
    private static void p11Others() {
        NinthDayHooded x = townOf("33pq");
        int[][] refused = {{0, 0, 9}, {0, 0, -1}, {0, 1, 9}, {0, 1, -1}, {0, 2, 64}, {0, 2, -1}, {0, 3, 0}, {0, -1, 0},
            {1, 0, 0}, {-1, 0, 0}};
        for (int[] r : refused) {
            due("set" + Arrays.toString(r), NONE, x.set(r[0], r[1], r[2]));
        }
        due("hood stays", 3, x.of(0, 0));
        due("street stays", 3, x.of(0, 1));
        due("trades stay", 3, x.of(0, 2));
    }

    @Says("of n entries f, f + step, .. (of bytes, shorts the lowest bits, with their sign; put to 0 .. 8)")
    private static void p12LowestBits() {
        int[] entries = {0, 1, 8, 9, 127, 128, 255, 256, 259, 264, 265, 383, 384, 32767, 32768, 65535, 65536, 65539, -1, -253,
            Integer.MAX_VALUE, Integer.MIN_VALUE, -65533};
        int[] bytes = {0, 1, 8, 8, 8, 0, 0, 0, 3, 8, 8, 8, 0, 0, 0, 0, 0, 3, 0, 3, 0, 0, 3};
        int[] shorts = {0, 1, 8, 8, 8, 8, 8, 8, 8, 8, 8, 8, 8, 8, 0, 0, 0, 3, 0, 0, 0, 0, 3};
        int[] ints = {0, 1, 8, 8, 8, 8, 8, 8, 8, 8, 8, 8, 8, 8, 8, 8, 8, 8, 0, 0, 8, 0, 0};
        NinthDayHooded x = townOf("33");
        for (int i = 0; i < entries.length; i++) {
            due("byte " + entries[i], bytes[i], x.sheet(0, 1, entries[i], 0));
            due("hood", bytes[i], x.of(0, 0));
            due("short " + entries[i], shorts[i], x.sheet(1, 1, entries[i], 0));
            due("int " + entries[i], ints[i], x.sheet(2, 1, entries[i], 0));
        }
    }

    @Says("f, f + step, ..")
    private static void p12Steps() {
        NinthDayHooded x = townOf("33;33;33;33");
        due("up", 1 + 3 + 5 + 7, x.sheet(2, 4, 1, 2));
        due("the fourth", 7, x.of(3, 0));
        due("down, below 0", 3 + 1, x.sheet(2, 4, 3, -2));
        due("the second", 1, x.of(1, 0));
        due("the third", 0, x.of(2, 0));
        due("beyond the greatest int", 8 + 0 + 0 + 0, x.sheet(2, 4, Integer.MAX_VALUE, 1));
        due("step of half of all ints", 5 + 0 + 5 + 0, x.sheet(2, 4, 5, Integer.MIN_VALUE));
        due("beyond the greatest byte", 0 + 8 + 0 + 8, x.sheet(0, 4, 255, 128));
    }

    @Says("or a missing one (3): those behind it have 0: the sum of all.")
    private static void p12ThoseBehindIt() {
        NinthDayHooded x = townOf("33;33;33;33");
        due("two entries", 14, x.sheet(2, 2, 7, 0));
        due("the second", 7, x.of(1, 0));
        due("the third", 0, x.of(2, 0));
        due("the fourth", 0, x.of(3, 0));
        due("no entry", 0, x.sheet(2, 0, 7, 0));
        due("the first", 0, x.of(0, 0));
        due("nine entries of which four have somebody", 28, x.sheet(2, 9, 7, 0));
        due("nobody there", 0, new NinthDayHooded().sheet(2, 9, 7, 0));
    }

    @Says("-2: n below 0 (of kinds 0 .. 2; nothing changes)")
    private static void p12NBelowZero() {
        NinthDayHooded x = townOf("33;44");
        for (int kind = 0; kind <= 2; kind++) {
            due("-1 of kind " + kind, -2, x.sheet(kind, -1, 1, 1));
            due("the least of kind " + kind, -2, x.sheet(kind, Integer.MIN_VALUE, 1, 1));
        }
        due("nothing changes", 3, x.of(0, 0));
        due("nothing changes", 4, x.of(1, 0));
        due("not of kind 3", -3, x.sheet(3, -1, 1, 1));
    }

    @Says("-3: missing (all 0).")
    private static void p12Missing() {
        int[] ns = {0, 1, 9, -1, Integer.MIN_VALUE};
        for (int n : ns) {
            NinthDayHooded x = townOf("33;44");
            due("missing, n " + n, -3, x.sheet(3, n, 7, 7));
            due("all 0", 0, x.of(0, 0));
            due("all 0", 0, x.of(1, 0));
        }
    }

    @Says("NONE: another kind, n above 9 (these first).")
    private static void p12AnotherKind() {
        NinthDayHooded x = townOf("33;44");
        due("kind 4", NONE, x.sheet(4, 1, 1, 1));
        due("kind -1", NONE, x.sheet(-1, 1, 1, 1));
        due("kind 4 ahead of n below 0", NONE, x.sheet(4, -1, 1, 1));
        due("kind -1 ahead of n below 0", NONE, x.sheet(-1, -1, 1, 1));
        for (int kind = 0; kind <= 3; kind++) {
            due("n 10 of kind " + kind, NONE, x.sheet(kind, 10, 1, 1));
        }
        due("nothing changes", 3, x.of(0, 0));
        due("nothing changes", 4, x.of(1, 0));
        due("n 9", 14, x.sheet(1, 9, 7, 0));
    }

    // ---- days

    @Says("COST of one's leading another one (that is HOODED or not), in DAY NOW.")
    private static void p13HoodedOrNot() {
        NinthDayHooded x = townOf("00;10;00");
        due("hooded by one that sees", 8, x.cost(0, 1));
        due("one that sees by one that is hooded", 8, x.cost(1, 0));
        due("both hooded", 8, x.cost(0, 2));
        trustText(x, 0, "000");
        due("without trust", 9, x.cost(0, 1));
        ruleText(x, "d");
        due("day 0", 0, x.cost(0, 1));
        x.days(10);
        due("day 10", 1, x.cost(0, 1));
    }

    @Says("in DAY NOW. NoSuchElementException: none such, like ones.")
    private static void p13NoneSuch() {
        NinthDayHooded x = townOf(FOUR);
        dueThrow("cost(3, 3)", () -> x.cost(3, 3));
        dueThrow("cost(4, 0)", () -> x.cost(4, 0));
        dueThrow("cost(0, 4)", () -> x.cost(0, 4));
        dueThrow("cost(-1, 0)", () -> x.cost(-1, 0));
        dueThrow("cost(0, -1)", () -> x.cost(0, -1));
        dueThrow("cost(4, 4)", () -> x.cost(4, 4));
        dueThrow("nobody there", () -> new NinthDayHooded().cost(0, 1));
    }

    @Says("how many are led by nobody; the ROW: the COST of the others, who is HOODED (bits), of each of these its GUIDE (NONE: nobody).")
    private static void p14NobodyInTheRow() {
        NinthDayHooded x = townOf(NINE);
        due("nobody is led by nobody", 0, x.guides(8));
        dueRow("i by a", x, 9 - 1 + 1, 256, 0);
        x.sheet(2, 9, 0, 0);
        due("all nine", 9, x.guides(0));
        dueRow("all nine", x, 0, 511, -1, -1, -1, -1, -1, -1, -1, -1, -1);
        due("none is hooded", 0, x.guides(1));
        dueRow("none is hooded", x, 0, 0);
        NinthDayHooded y = townOf("00;00;00;10");
        ruleText(y, "10+i");
        due("c is led by nobody", 1, y.guides(0));
        dueRow("the cost of the others", y, 10 + 11, 7, 3, 3, -1);
        NinthDayHooded z = townOf("00;00;00;00;00;00;10;10;10");
        for (int p = 0; p < 6; p++) {
            trustText(z, p, "000000000");
        }
        due("six trust nobody", 6, z.guides(0));
        dueRow("six trust nobody", z, 0, 63, -1, -1, -1, -1, -1, -1);
        due("asked behind that day", 0, z.guides(1));
        dueRow("asked behind that day", z, 24, 448, 0, 0, 1);
    }

    @Says("`int guides(int day)`: GUIDES of a DAY (0 .. 999)")
    private static void p14AnotherDay() {
        NinthDayHooded x = townOf("00;10");
        x.guides(1);
        due("day 1000", NONE, x.guides(1000));
        due("day -1", NONE, x.guides(-1));
        due("the greatest", NONE, x.guides(Integer.MAX_VALUE));
        dueRow("the row stays", x, 8, 2, 0);
        due("day 0", 0, x.guides(0));
        dueRow("day 0", x, 8, 1, 1);
        x.guides(1);
        due("day 999", 0, x.guides(999));
        dueRow("day 999", x, 8, 1, 1);
    }

    @Says("who of those HOODED could be led by none at all, if all others were not (bits).")
    private static void p15LedByNoneAtAll() {
        NinthDayHooded x = townOf("00;00;00;10");
        due("c, as d leads two", 4, x.lonely(0));
        dueRow("each could be led alone", x, 0);
        trustText(x, 0, "0990");
        due("a trusts hooded ones alone", 1, x.lonely(0));
        dueRow("a could be led by none", x, 1);
        trustText(x, 3, "0000");
        due("d could be led by none", 8, x.lonely(1));
        dueRow("a sees then", x, 8);
        x.set(3, 0, 0);
        due("nobody sees", 15, x.lonely(0));
        dueRow("nobody sees", x, 15);
        due("nobody is hooded", 0, x.lonely(5));
        dueRow("nobody is hooded", x, 0);
        NinthDayHooded y = townOf("10;00;00;00");
        due("a leads two of three", 8, y.lonely(0));
        dueRow("a could lead each", y, 0);
    }

    @Says("Who is led by nobody, by GUIDES of a DAY (0 .. 999)")
    private static void p15AnotherDay() {
        NinthDayHooded x = townOf("00;10");
        trustText(x, 0, "00");
        due("day 0", 1, x.lonely(0));
        due("day 999", 1, x.lonely(999));
        due("day 1000", NONE, x.lonely(1000));
        due("day -1", NONE, x.lonely(-1));
        dueRow("the row stays", x, 1);
        due("day 998", 0, x.lonely(998));
    }

    @Says("The HOOD day (of DAYS NOW .. NOW + 8, by them)")
    private static void p16NineDays() {
        NinthDayHooded x = townOf("00;80");
        ruleText(x, "1+i");
        due("day NOW + 8 is one of them", 8, x.hardest());
        dueRow("day 8", x, 0, 2);
        x.day();
        ruleText(x, "2-i");
        due("day 9, by then hood 0 again", 0, x.hardest());
        dueRow("day 9", x, 0, 2);
        ruleText(x, "d+1");
        due("by the day", 8, x.hardest());
        dueRow("by the day", x, 0, 9);
    }

    @Says("on which the most are led by nobody, of those the one with the most COST, of those the first DAY")
    private static void p16MostThenCostThenFirst() {
        NinthDayHooded x = townOf("30;50;70");
        ruleText(x, "5");
        due("the first", 3, x.hardest());
        dueRow("equal ones", x, 0, 5);
        x.days(4);
        due("the first from day 4 on", 5, x.hardest());
        x.days(4);
        due("the first from day 8 on", 3, x.hardest());
        ruleText(x, "5+i");
        due("the most cost", 7, x.hardest());
        dueRow("the most cost", x, 0, 7);
        trustText(x, 1, "000");
        due("led by nobody is ahead of cost", 5, x.hardest());
        dueRow("led by nobody", x, 1, 0);
        NinthDayHooded none = new NinthDayHooded();
        none.days(12);
        due("nobody there: this day", 3, none.hardest());
        dueRow("nobody there", none, 0, 0);
    }

    @Says("A DAY goes by: how many were led; the ROW: COST, how many TRADES were learnt.")
    private static void p17NobodyLed() {
        NinthDayHooded none = new NinthDayHooded();
        due("nobody there", 0, none.day());
        dueRow("nobody there", none, 0, 0);
        due("it is day 1", 1, none.count(1));
        NinthDayHooded x = townOf("00;10p");
        trustText(x, 0, "00");
        due("led by nobody", 0, x.day());
        dueRow("led by nobody", x, 0, 0);
        due("one is led", 1, x.day());
        dueRow("one is led", x, 8, 0);
        trustText(x, 0, "01");
        x.days(7);
        x.days(18);
        due("the third lesson", 1, x.day());
        dueRow("a trade is learnt", x, 8, 1);
        due("the day behind it", 1, x.day());
        dueRow("of this day alone", x, 8, 0);
    }

    @Says("n DAYS (0 .. 40) go by: how many were led in all; the ROW: COST in all, how many TRADES were learnt. NONE: another n.")
    private static void p18NoneAndForty() {
        NinthDayHooded x = townOf("00;10p");
        due("none", 0, x.days(0));
        dueRow("none", x, 0, 0);
        due("now", 0, x.count(1));
        due("forty: five of each", 10, x.days(40));
        dueRow("forty", x, 80, 1);
        due("now", 40, x.count(1));
        due("41", NONE, x.days(41));
        due("-1", NONE, x.days(-1));
        dueRow("the row stays", x, 80, 1);
        due("now", 40, x.count(1));
        due("one", 0, x.days(1));
        dueRow("of this day alone", x, 0, 0);
        due("now", 41, x.count(1));
    }

    @Says("THE TEXT tells A SEASON (an empty one: nothing)")
    private static void p19EmptySeason() {
        NinthDayHooded x = townOf(FOUR);
        x.blindest();
        due("no act", 0, x.season());
        dueRow("no act", x, 0, 0);
        due("now", 0, x.count(1));
        due("nothing to undo", 0, x.count(7));
    }

    @Says("ACTS with ; between: d and perhaps a digit 1 .. 9: so many DAYS (1) go by")
    private static void p19DaysOfASeason() {
        String[] seasons = {"d", "d1", "d2", "d9", "d;d", "d9;d9;d"};
        int[] acts = {1, 1, 1, 1, 2, 3};
        int[] days = {1, 1, 2, 9, 2, 19};
        for (int i = 0; i < seasons.length; i++) {
            NinthDayHooded x = townOf(FOUR);
            due(seasons[i], acts[i], seasonText(x, seasons[i]));
            due("days of " + seasons[i], days[i], x.count(1));
        }
        NinthDayHooded x = townOf(FOUR);
        due("d0", -1 - 1, seasonText(x, "d0"));
        due("d10", -1 - 2, seasonText(x, "d10"));
        due("d:", -1 - 1, seasonText(x, "d:"));
        due("no ; between", -1 - 1, seasonText(x, "dd"));
        due("no ; between", -1 - 2, seasonText(x, "d1d"));
        due("two ;", -1 - 2, seasonText(x, "d;;d"));
        due("a ; ahead", -1, seasonText(x, ";d"));
        due("no day went by", 0, x.count(1));
    }

    @Says("h, a letter, a digit 0 .. 8: HOOD;")
    private static void p19HoodOfASeason() {
        NinthDayHooded x = townOf(FOUR);
        due("the greatest", 1, seasonText(x, "ha8"));
        due("hood", 8, x.of(0, 0));
        due("the least", 1, seasonText(x, "hd0"));
        due("hood", 0, x.of(3, 0));
        due("9", -1 - 2, seasonText(x, "ha9"));
        due("/", -1 - 2, seasonText(x, "ha/"));
        due("a letter", -1 - 2, seasonText(x, "hab"));
        due("a digit more", -1 - 3, seasonText(x, "ha11"));
        due("hood stays", 8, x.of(0, 0));
        due("street stays", 0, x.of(0, 1));
    }

    @Says("s, a letter, a letter: HOODS of two unlike ones are swapped;")
    private static void p19SwapOfASeason() {
        NinthDayHooded x = townOf(FOUR);
        due("a and d", 1, seasonText(x, "sad"));
        due("a has d's", 4, x.of(0, 0));
        due("d has a's", 0, x.of(3, 0));
        due("like ones can't be", 0, seasonText(x, "sdd"));
        dueRow("like ones can't be", x, 1, 0);
        due("the second is not there", 0, seasonText(x, "sae"));
        due("the first is not there", 0, seasonText(x, "sea"));
        due("a digit", -1 - 1, seasonText(x, "s1a"));
        due("a digit", -1 - 2, seasonText(x, "sa1"));
        due("a third letter", -1 - 3, seasonText(x, "sabc"));
    }

    @Says("m, a letter, a digit 0 .. 8: STREET")
    private static void p19StreetOfASeason() {
        NinthDayHooded x = townOf(FOUR);
        due("the greatest", 1, seasonText(x, "ma8"));
        due("street", 8, x.of(0, 1));
        due("the least", 1, seasonText(x, "md0"));
        due("street", 0, x.of(3, 1));
        due("9", -1 - 2, seasonText(x, "ma9"));
        due("/", -1 - 2, seasonText(x, "ma/"));
        due("street stays", 8, x.of(0, 1));
        due("hood stays", 0, x.of(0, 0));
    }

    @Says("(letters a .. i, whether there or not)")
    private static void p19LettersOfASeason() {
        String[] acts = {"h#1", "m#1", "s#a", "sa#"};
        for (String act : acts) {
            int at = act.indexOf('#');
            NinthDayHooded x = townOf("00;10");
            due(act + " with i, who is not there", 0, seasonText(x, act.replace('#', 'i')));
            dueRow("it could not be", x, 1, 0);
            due(act + " with b", 1, seasonText(x, act.replace('#', 'b')));
            due(act + " with j", -1 - at, seasonText(x, act.replace('#', 'j')));
            due(act + " with a sign ahead of a", -1 - at, seasonText(x, act.replace('#', '`')));
            due(act + " with A", -1 - at, seasonText(x, act.replace('#', 'A')));
            NinthDayHooded nine = townOf(NINE);
            due(act + " with i, who is there", 1, seasonText(nine, act.replace('#', 'i')));
        }
    }

    @Says("they are done one by one, till one can't be: how many were done; the ROW: 1 if one could not be, else 0; how many were led in all.")
    private static void p19TillOneCannotBe() {
        NinthDayHooded x = townOf("00;10");
        due("the first can't be", 0, seasonText(x, "hc1;d"));
        dueRow("the first can't be", x, 1, 0);
        due("no day went by", 0, x.count(1));
        due("the third can't be", 2, seasonText(x, "d2;mb3;saa;ma5"));
        dueRow("two were led", x, 1, 2);
        due("the second was done", 3, x.of(1, 1));
        due("the fourth was not", 0, x.of(0, 1));
        due("the last can't be", 1, seasonText(x, "d9;hc1"));
        dueRow("both were led", x, 1, 2);
        due("all can be", 2, seasonText(x, "d9;ma5"));
        dueRow("all can be", x, 0, 2);
        NinthDayHooded order = townOf("00;10;20");
        due("one behind the other", 3, seasonText(order, "sab;sbc;ha8"));
        due("a", 8, order.of(0, 0));
        due("b", 2, order.of(1, 0));
        due("c", 0, order.of(2, 0));
    }

    @Says("-1 - p: the sign at p can't stand there (as town(); 60 signs)")
    private static void p19EndsTooEarlyOrSixtySigns() {
        String[] early = {"h", "ha", "m", "ma", "s", "sa", "d;", "d1;", "d;h", "sab;", "d;".repeat(30), "d;".repeat(29) + "ha"};
        NinthDayHooded x = townOf(FOUR);
        for (String season : early) {
            due(season, -1 - season.length(), seasonText(x, season));
        }
        String[] more = {"d;".repeat(30) + "d", "d;".repeat(30) + "x", "d;".repeat(29) + "d1;", "d;".repeat(29) + "d12",
            "d;".repeat(29) + "ha1", "d;".repeat(29) + "d;;", "d;".repeat(40)};
        for (String season : more) {
            due(season, -1 - 60, seasonText(x, season));
        }
        due("a fault at 59 is ahead", -1 - 59, seasonText(x, "d;".repeat(29) + "d0;"));
        due("a fault at 0 is ahead", -1, seasonText(x, "x".repeat(80)));
        due("no day went by", 0, x.count(1));
        due("60 signs", 30, seasonText(x, "d;".repeat(29) + "d1"));
        due("30 days went by", 30, x.count(1));
    }

    @Says("nothing is done then.")
    private static void p19NothingIsDone() {
        NinthDayHooded x = townOf(FOUR);
        x.blindest();
        due("a fault at the end", -1 - 8, seasonText(x, "d;ha8;d;"));
        due("a fault in the second act", -1 - 2, seasonText(x, "d;x"));
        due("no day went by", 0, x.count(1));
        due("hood stays", 0, x.of(0, 0));
        due("nothing to undo", 0, x.count(7));
        dueRow("the row stays", x, 2);
    }

    @Says("(of 12 that are kept, the latest ones;")
    private static void p20TwelveAreKept() {
        NinthDayHooded x = townOf("00;10p");
        for (int i = 1; i <= 15; i++) {
            x.day();
            due("kept", Math.min(i, 12), x.count(7));
        }
        for (int left = 11; left >= 0; left--) {
            due("left", left, x.undo());
            due("now", left + 3, x.count(1));
        }
        due("no thirteenth", NONE, x.undo());
        due("now", 3, x.count(1));
        for (int i = 0; i < 4; i++) {
            x.day();
        }
        due("four again", 3, x.undo());
        due("now", 6, x.count(1));
    }

    @Says("such as were not refused;")
    private static void p20NotRefused() {
        NinthDayHooded x = townOf(FOUR);
        x.days(41);
        x.days(-1);
        x.swap(0, 0);
        x.swap(0, 4);
        seasonText(x, "d;x");
        due("no ring", -2, x.turn());
        x.task(5, 3);
        due("can't be mended", -2, x.mend());
        due("nothing to undo", 0, x.count(7));
        due("undo", NONE, x.undo());
    }

    @Says("days() of 1 and more,")
    private static void p20DaysOfOneAndMore() {
        NinthDayHooded x = townOf(FOUR);
        x.days(0);
        due("none", 0, x.count(7));
        x.days(1);
        due("one", 1, x.count(7));
        x.days(40);
        due("forty, as one", 2, x.count(7));
        due("undo", 1, x.undo());
        due("now", 1, x.count(1));
    }

    @Says("season() of which one ACT was done, as one;")
    private static void p20SeasonAsOne() {
        NinthDayHooded x = townOf(FOUR);
        x.season();
        due("an empty one", 0, x.count(7));
        seasonText(x, "saa;d");
        due("no act done", 0, x.count(7));
        seasonText(x, "d;saa");
        due("one act done", 1, x.count(7));
        seasonText(x, "d;d2;ha8;mb8;sab");
        due("five, as one", 2, x.count(7));
        due("undo", 1, x.undo());
        due("now", 1, x.count(1));
        due("hood", 0, x.of(0, 0));
        due("street", 1, x.of(1, 1));
        due("undo", 0, x.undo());
        due("now", 0, x.count(1));
    }

    @Says("mend() that changed something)")
    private static void p20MendThatChanged() {
        NinthDayHooded x = townOf("00p;00p");
        due("nothing to mend", 0, x.mend());
        due("nothing to undo", 0, x.count(7));
        x.task(0, 1);
        due("one", 1, x.mend());
        due("one to undo", 1, x.count(7));
        due("nothing more to mend", 0, x.mend());
        due("one to undo", 1, x.count(7));
        due("undo", 0, x.undo());
        due("hood", 0, x.of(0, 0));
    }

    @Says("The latest day(), days(), season(), swap(), turn() or mend()")
    private static void p20EachKind() {
        NinthDayHooded x = townOf("00p;00p;50");
        x.task(0, 1);
        x.mend();
        likesText(x, 0, "000001000");
        likesText(x, 2, "010000000");
        due("a ring", 2, x.turn());
        x.swap(1, 2);
        seasonText(x, "hb7");
        x.days(2);
        x.day();
        int[] now = {2, 0, 0, 0, 0, 0};
        int[][] hoods = {{5, 7, 0}, {5, 7, 0}, {5, 1, 0}, {5, 0, 1}, {1, 0, 5}, {0, 0, 5}};
        for (int i = 0; i < 6; i++) {
            due("left", 5 - i, x.undo());
            due("now", now[i], x.count(1));
            for (int p = 0; p < 3; p++) {
                due("hood of " + p + " behind undo " + (i + 1), hoods[i][p], x.of(p, 0));
            }
        }
    }

    @Says("(NOW, HOODS, STREETS, TRADES, LESSONS, THE BOOK are as ahead of it)")
    private static void p20AsAheadOfIt() {
        NinthDayHooded x = townOf("00;10pq;20");
        x.days(9);
        x.days(20);
        x.set(0, 0, 7);
        x.set(0, 1, 7);
        x.set(0, 2, 60);
        trustText(x, 0, "055");
        likesText(x, 0, "900000000");
        ruleText(x, "t");
        x.task(0, 1);
        x.wish(0, 1, 1);
        x.theft(0, 0);
        due("left", 1, x.undo());
        due("now", 9, x.count(1));
        due("hood", 0, x.of(0, 0));
        due("street", 0, x.of(0, 1));
        due("trades", 0, x.of(0, 2));
        due("lessons", 1, x.lessons(0, 0));
        due("days in the book", 9, x.count(6));
        due("who led", 1, x.led(0, 9));
        due("nine days are known", -4, x.led(0, 10));
        due("trust stays", 5, x.trusts(0, 1));
        due("likes stay", 9, x.of(0, 3));
        due("the rule stays", 5, x.cost(0, 1));
        due("tasks, wishes, thefts stay", 3, x.count(3) + x.count(4) + x.count(5));
        NinthDayHooded nine = townOf("00u;11;22;33;44;55;66;77;88");
        ruleText(nine, "j");
        nine.days(9);
        nine.days(9);
        nine.set(8, 0, 0);
        nine.set(8, 1, 0);
        nine.set(8, 2, 63);
        due("two lessons of the last", 2, nine.lessons(8, 5));
        nine.undo();
        due("one lesson of the last", 1, nine.lessons(8, 5));
        due("hood of the last", 8, nine.of(8, 0));
        due("street of the last", 8, nine.of(8, 1));
        due("trades of the last", 0, nine.of(8, 2));
        nine.undo();
        due("no lesson of the last", 0, nine.lessons(8, 5));
    }

    @Says("how many are left that can be. Refused: none.")
    private static void p20NoneLeft() {
        NinthDayHooded x = townOf(FOUR);
        due("none", NONE, x.undo());
        x.day();
        x.day();
        due("one is left", 1, x.undo());
        due("none is left", 0, x.undo());
        due("none", NONE, x.undo());
        due("now", 0, x.count(1));
    }

    @Says("(town() and again() forget them, if they are not refused; an empty town() does not.)")
    private static void p20Forgotten() {
        NinthDayHooded x = townOf(FOUR);
        x.day();
        due("an empty town", 0, x.town());
        due("it does not", 1, x.count(7));
        due("a refused town", -1, townText(x, "x"));
        due("it does not", 1, x.count(7));
        due("a town", 1, townText(x, "00"));
        due("it does", 0, x.count(7));
        due("nothing is undone", NONE, x.undo());
        due("now", 1, x.count(1));
        x.day();
        x.keep(0);
        due("keep does not", 1, x.count(7));
        due("a refused again", false, x.again(1));
        due("it does not", 1, x.count(7));
        due("again", true, x.again(0));
        due("it does", 0, x.count(7));
        due("nothing is undone", NONE, x.undo());
        due("now", 2, x.count(1));
    }

    @Says("Who led one k DAYS ago (1 .. 30; 1: in the DAY that went by last).")
    private static void p21OneToThirty() {
        NinthDayHooded x = townOf("00;10");
        x.day();
        due("in the last day", 1, x.led(0, 1));
        x.day();
        due("two days ago", 1, x.led(0, 2));
        due("in the last day", 0, x.led(1, 1));
        x.days(28);
        due("30 days ago", 1, x.led(0, 30));
        due("29 days ago", 0, x.led(1, 29));
        due("31", NONE, x.led(0, 31));
        due("0", NONE, x.led(0, 0));
        due("-1", NONE, x.led(0, -1));
    }

    @Says("-2: it was not HOODED; -3: nobody;")
    private static void p21NotHoodedOrNobody() {
        NinthDayHooded x = townOf("00;00;00;10");
        x.days(2);
        due("d led a", 3, x.led(0, 2));
        due("nobody led c", -3, x.led(2, 2));
        due("d was not hooded", -2, x.led(3, 2));
        due("a was not hooded", -2, x.led(0, 1));
        NinthDayHooded nine = townOf(NINE);
        ruleText(nine, "9-j");
        nine.days(9);
        due("the ninth led a", 8, nine.led(0, 9));
        due("the eighth led the ninth", 7, nine.led(8, 1));
        due("the ninth was not hooded", -2, nine.led(8, 2));
        trustText(nine, 8, "000000000");
        nine.days(9);
        due("nobody led the ninth", -3, nine.led(8, 1));
        x.set(0, 0, 1);
        due("what it is now does not matter", -2, x.led(0, 1));
        due("what it is now does not matter", 3, x.led(0, 2));
    }

    @Says("-4: not known (THE BOOK has not so many DAYS, or it came since)")
    private static void p21NotKnown() {
        NinthDayHooded x = townOf("00;10");
        due("no day", -4, x.led(0, 1));
        due("no day", -4, x.led(0, 30));
        x.days(2);
        due("two days", -2, x.led(1, 2));
        due("not three", -4, x.led(1, 3));
        townText(x, "20");
        due("it came since", -4, x.led(2, 1));
        x.comes(1);
        due("it came since", -4, x.led(3, 2));
        x.day();
        due("a day since", 0, x.led(2, 1));
        due("it came since", -4, x.led(2, 2));
        due("another one is known", 0, x.led(1, 2));
        x.undo();
        due("undone", -4, x.led(2, 1));
        due("undone", -4, x.led(0, 3));
        NinthDayHooded late = townOf("00;10");
        late.days(35);
        townText(late, "20");
        due("30 days ago, it came since", -4, late.led(2, 30));
        due("30 days ago", -2, late.led(0, 30));
        NinthDayHooded eight = townOf("00;11;22;33;44;55;66;77");
        eight.day();
        townText(eight, "88");
        due("the ninth came since", -4, eight.led(8, 1));
        eight.day();
        due("the ninth was not hooded", -2, eight.led(8, 1));
        due("the ninth came since", -4, eight.led(8, 2));
    }

    @Says("or it came since); NONE: others.")
    private static void p21Others() {
        NinthDayHooded x = townOf("00;10");
        x.days(2);
        due("none such", NONE, x.led(2, 1));
        due("none such", NONE, x.led(-1, 1));
        due("0, though not known", NONE, x.led(0, 0));
        due("31, though not known", NONE, x.led(0, 31));
        due("nobody there", NONE, new NinthDayHooded().led(0, 1));
    }

    @Says("how often; the ROW: whom (bits), whom the most often (of equal ones the first; NONE: nobody).")
    private static void p22MostOften() {
        NinthDayHooded x = townOf("00;10;20;30");
        ruleText(x, "j");
        due("no day", 0, x.leads(0));
        dueRow("nobody", x, 0, -1);
        x.days(4);
        due("b, c and d", 3, x.leads(0));
        dueRow("of equal ones the first", x, 14, 1);
        due("a", 1, x.leads(1));
        dueRow("a", x, 1, 0);
        due("nobody", 0, x.leads(3));
        dueRow("nobody", x, 0, -1);
        x.set(2, 0, 4);
        x.day();
        due("c once more", 4, x.leads(0));
        dueRow("c the most often", x, 14, 2);
    }

    @Says("Whom one led, in all DAYS of THE BOOK")
    private static void p22AllDaysOfTheBook() {
        NinthDayHooded x = townOf("00;10");
        x.days(30);
        due("days 0, 9, 18, 27", 4, x.leads(1));
        due("days 1, 10, 19, 28", 4, x.leads(0));
        x.day();
        due("day 0 is out", 3, x.leads(1));
        due("day 1 is in", 4, x.leads(0));
        x.day();
        due("day 1 is out", 3, x.leads(0));
        NinthDayHooded nine = townOf(NINE);
        ruleText(nine, "(j=8)*9+j");
        nine.days(9);
        due("a leads the eight others", 8, nine.leads(0));
        dueRow("b the first of them", nine, 510, 1);
        ruleText(nine, "9-j");
        nine.days(9);
        due("i leads the eight others", 8, nine.leads(8));
        dueRow("a the first of them", nine, 255, 0);
    }

    @Says("`int leads(int person)`")
    private static void p22NoneSuch() {
        NinthDayHooded x = townOf("00;10");
        x.day();
        x.leads(1);
        due("2", NONE, x.leads(2));
        due("-1", NONE, x.leads(-1));
        dueRow("the row stays", x, 1, 0);
    }

    @Says("How many are led in the next n DAYS (0 .. 40), trades being learnt;")
    private static void p23NoneAndForty() {
        NinthDayHooded x = townOf("00;10p");
        ruleText(x, "k*10");
        due("none", 0, x.ahead(0));
        dueRow("none", x, 0, 0, 0, 0);
        due("forty", 10, x.ahead(40));
        dueRow("a learns p with the third lesson", x, 5, 5, 30, 1);
        due("asked again", 10, x.ahead(40));
        dueRow("asked again", x, 5, 5, 30, 1);
        due("41", NONE, x.ahead(41));
        due("-1", NONE, x.ahead(-1));
        dueRow("the row stays", x, 5, 5, 30, 1);
        due("nothing is learnt", 0, x.lessons(0, 0));
        due("now", 0, x.count(1));
        NinthDayHooded none = new NinthDayHooded();
        due("nobody there", 0, none.ahead(40));
        dueRow("nobody there", none, 0, 0);
    }

    @Says("After how many DAYS (1 .. 40; 0: it has it) one has a TRADE; the ROW: LESSONS it has then.")
    private static void p24ZeroToForty() {
        NinthDayHooded x = townOf("00;10p");
        due("it has it", 0, x.learns(1, 0));
        dueRow("no lesson", x, 0);
        due("days 0, 9, 18", 19, x.learns(0, 0));
        dueRow("three", x, 3);
        x.days(18);
        due("this day", 1, x.learns(0, 0));
        dueRow("three", x, 3);
        x.day();
        due("it has it", 0, x.learns(0, 0));
        dueRow("three", x, 3);
        NinthDayHooded forty = townOf("30;10pq");
        forty.days(9);
        due("p on days 12 and 21, q on days 30, 39, 48: the fortieth from day 9 on", 40, forty.learns(0, 1));
        dueRow("three", forty, 3);
        NinthDayHooded last = townOf("00u;10;20");
        ruleText(last, "j");
        last.days(11);
        due("the last of them, on days 2, 11 and 20", 10, last.learns(2, 5));
        dueRow("three", last, 3);
    }

    @Says("-2: not in these (the ROW: LESSONS behind 40 DAYS); NONE: others.")
    private static void p24NotInThese() {
        NinthDayHooded x = townOf("40;10pq");
        x.days(9);
        due("q on days 31, 40, 49: a day too late", -2, x.learns(0, 1));
        dueRow("two", x, 2);
        due("nobody has it", -2, x.learns(0, 5));
        dueRow("none", x, 0);
        due("trade 6", NONE, x.learns(0, 6));
        due("trade -1", NONE, x.learns(0, -1));
        due("none such", NONE, x.learns(2, 0));
        due("none such", NONE, x.learns(-1, 0));
        dueRow("the row stays", x, 0);
    }

    // ---- tasks

    @Says("A TASK: a TRADE (0 .. 5), NEED 1 .. 3: its number.")
    private static void p25LeastAndGreatest() {
        NinthDayHooded x = new NinthDayHooded();
        due("the least", 0, x.task(0, 1));
        due("what it needs", 1, x.manned(0));
        due("the greatest", 1, x.task(5, 3));
        due("what both need", 4, x.manned(0));
        x.done();
        due("the number is free again", 1, x.task(0, 2));
    }

    @Says("-2: 6 are there; NONE: others.")
    private static void p25SixAreThereOrOthers() {
        NinthDayHooded x = townOf(FOUR);
        due("trade 6", NONE, x.task(6, 1));
        due("trade -1", NONE, x.task(-1, 1));
        due("need 0", NONE, x.task(0, 0));
        due("need 4", NONE, x.task(0, 4));
        due("need -1", NONE, x.task(0, -1));
        due("none is there", 0, x.count(3));
        for (int i = 0; i < 6; i++) {
            due("task", i, x.task(i, 1 + i % 3));
        }
        due("a seventh", -2, x.task(0, 1));
        due("a seventh", -2, x.task(5, 3));
        due("six", 6, x.count(3));
        x.done();
        due("a sixth", 5, x.task(0, 1));
    }

    @Says("The latest TASK is done with: how many are left. Refused: none.")
    private static void p26NoneIsThere() {
        NinthDayHooded x = townOf(FOUR);
        due("none", NONE, x.done());
        x.task(0, 1);
        x.task(5, 3);
        due("one is left", 1, x.done());
        due("it is the first", 0, x.manned(8));
        due("none is left", 0, x.done());
        due("none", NONE, x.done());
        due("none", 0, x.count(3));
    }

    @Says("how many of what TASKS NEED is wanting at the least (0: it is); the ROW: how many SEE.")
    private static void p27WantingAtTheLeast() {
        NinthDayHooded x = townOf("00pq;00p");
        due("no tasks", 0, x.manned(0));
        dueRow("none sees", x, 0);
        x.task(0, 1);
        x.task(1, 1);
        due("b for p, a for q", 0, x.manned(1));
        dueRow("two see", x, 2);
        due("none sees", 2, x.manned(0));
        dueRow("none sees", x, 0);
        NinthDayHooded y = townOf("00p;00pq");
        y.task(0, 1);
        y.task(1, 1);
        due("a for p, b for q", 0, y.manned(1));
        y.task(0, 3);
        due("three of five", 3, y.manned(1));
    }

    @Says("Whether a HOOD day (0 .. 8) is MANNED")
    private static void p27AnotherHoodDay() {
        NinthDayHooded x = townOf("00;80");
        due("day 0", 0, x.manned(0));
        dueRow("one sees", x, 1);
        due("day 4", 0, x.manned(4));
        dueRow("two see", x, 2);
        due("9", NONE, x.manned(9));
        due("-1", NONE, x.manned(-1));
        dueRow("the row stays", x, 2);
        due("day 8", 0, x.manned(8));
        dueRow("one sees", x, 1);
    }

    @Says("HOOD days (bits 0 .. 8) that are not MANNED; the ROW: what is wanting on all nine together.")
    private static void p28FirstAndLastDay() {
        NinthDayHooded x = townOf("00p;80p");
        due("no tasks", 0, x.bare());
        dueRow("no tasks", x, 0);
        x.task(0, 2);
        due("days 0 and 8", 1 + 256, x.bare());
        dueRow("one on each", x, 2);
        x.task(5, 1);
        due("all", 511, x.bare());
        dueRow("one more on each of nine", x, 2 + 9);
    }

    @Says("The HOOD day on which the most are HOODED; of equal ones the first: it; the ROW: how many.")
    private static void p29OfEqualOnesTheFirst() {
        NinthDayHooded x = new NinthDayHooded();
        due("nobody there", 0, x.blindest());
        dueRow("nobody there", x, 0);
        townText(x, "80");
        due("the last day", 8, x.blindest());
        dueRow("one", x, 1);
        townText(x, "30;30;80");
        due("of equal ones the first", 3, x.blindest());
        dueRow("two", x, 2);
        townText(x, "80");
        due("the most", 8, x.blindest());
        dueRow("three", x, 3);
    }

    @Says("The fewest of PEOPLE (2 at most) that must have another HOOD")
    private static void p30NoneOneTwo() {
        NinthDayHooded x = townOf("00p;00p;00q;00q;00r;00r");
        due("no tasks", 0, x.mends());
        dueRow("none must", x);
        x.task(0, 1);
        due("one must", 1, x.mends());
        dueRow("a", x, 0, 1);
        x.task(1, 1);
        due("two must", 2, x.mends());
        dueRow("a and c", x, 0, 1, 2, 1);
        x.task(2, 1);
        due("three must", -2, x.mends());
        x.set(4, 0, 8);
        due("two must, as e has another hood", 2, x.mends());
        due("nothing changes", 0, x.of(0, 0) + x.of(2, 0));
    }

    @Says("the ROW: they and their HOODS, one behind the other (the lesser first): of as few the least row.")
    private static void p30LeastRow() {
        NinthDayHooded x = townOf("10p;10p");
        x.task(0, 1);
        due("one", 1, x.mends());
        dueRow("its least other hood", x, 0, 0);
        NinthDayHooded y = townOf("00p;00p;10p;00p");
        y.task(0, 3);
        due("each must be hooded alone", 2, y.mends());
        dueRow("not 1, where c is, and not 2 for both", y, 0, 2, 1, 3);
        NinthDayHooded z = townOf("50q;30;00p;00p;10q;10q");
        z.task(0, 1);
        z.task(1, 2);
        due("one of c, d and one of e, f", 2, z.mends());
        dueRow("the lesser first", z, 2, 1, 4, 0);
    }

    @Says("of as few the least row. -2: not by 2.")
    private static void p30NotByTwo() {
        NinthDayHooded x = townOf("00p");
        x.task(0, 1);
        due("none can do it", -2, x.mends());
        x.task(5, 3);
        due("none can do it", -2, x.mends());
        NinthDayHooded none = new NinthDayHooded();
        due("nobody there, no tasks", 0, none.mends());
        none.task(0, 1);
        due("nobody there", -2, none.mends());
        NinthDayHooded nine = townOf(NINE);
        nine.task(5, 1);
        due("nine of whom none can do it", -2, nine.mends());
    }

    @Says("It is done as mends() tells: how many have another HOOD then; the ROW as there. -2: likewise.")
    private static void p31NoneOneTwo() {
        NinthDayHooded x = townOf("00p;00p;00q;00q;00r;00r");
        due("no tasks", 0, x.mend());
        dueRow("none", x);
        x.task(0, 1);
        x.task(1, 1);
        x.task(2, 1);
        due("three must", -2, x.mend());
        due("nothing changes", 0, x.of(0, 0) + x.of(2, 0) + x.of(4, 0));
        x.done();
        due("two must", 2, x.mend());
        dueRow("a and c", x, 0, 1, 2, 1);
        due("a", 1, x.of(0, 0));
        due("b", 0, x.of(1, 0));
        due("c", 1, x.of(2, 0));
        due("all are manned", 0, x.bare());
        due("nothing is left", 0, x.mend());
        dueRow("none", x);
    }

    @Says("with TRADES told as bits (0 .. 63), had best have")
    private static void p32OtherBits() {
        NinthDayHooded x = townOf("00");
        x.task(5, 1);
        due("no trades", 0, x.newcomer(0));
        dueRow("no trades", x, 9);
        due("all trades", 0, x.newcomer(63));
        dueRow("wanting on its own hood day", x, 1);
        due("64", NONE, x.newcomer(64));
        due("-1", NONE, x.newcomer(-1));
        dueRow("the row stays", x, 1);
    }

    @Says("by which the least is wanting on all nine days together (also if 9 are there); of as good ones the first")
    private static void p32AlsoIfNineAreThere() {
        NinthDayHooded x = townOf("00p;10;20;30;40;50;60;70;80p");
        x.task(0, 2);
        due("of as good ones the first: not 0", 1, x.newcomer(1));
        dueRow("it is not wanting on 0 and 8", x, 0);
        x.set(0, 2, 0);
        due("nine days want p: 0 is as good as any but 8", 0, x.newcomer(1));
        dueRow("one on 0 twice, less on the others", x, 1 + 1);
        due("nobody came", 9, x.count(0));
    }

    @Says("PEOPLE (bits) without each of whom alone (gone for good) more is wanting on all nine days together than with it.")
    private static void p33GoneForGood() {
        NinthDayHooded none = new NinthDayHooded();
        none.task(0, 1);
        due("nobody there", 0, none.needed());
        NinthDayHooded x = townOf("00p;00p;10;20;30;40;50;60;70p");
        due("no tasks", 0, x.needed());
        x.task(0, 1);
        due("i alone, for day 0", 256, x.needed());
        x.task(0, 1);
        due("each of three", 1 + 2 + 256, x.needed());
        x.set(8, 2, 0);
        due("both", 1 + 2, x.needed());
    }

    @Says("By how much less would be wanting on all nine days together (may be below 0), if two unlike ones swapped HOODS.")
    private static void p34MayBeBelowZero() {
        NinthDayHooded x = townOf("00p;00p;10");
        x.task(0, 1);
        due("less", 1, x.gain(0, 2));
        due("the other way round", 1, x.gain(2, 0));
        due("like hoods", 0, x.gain(0, 1));
        x.swap(0, 2);
        due("more", -1, x.gain(0, 2));
        due("nothing changes", 1, x.of(0, 0));
    }

    @Says("if two unlike ones swapped HOODS. NoSuchElementException: others.")
    private static void p34Others() {
        NinthDayHooded x = townOf("00p;00p;10");
        dueThrow("gain(0, 0)", () -> x.gain(0, 0));
        dueThrow("gain(3, 0)", () -> x.gain(3, 0));
        dueThrow("gain(0, 3)", () -> x.gain(0, 3));
        dueThrow("gain(-1, 0)", () -> x.gain(-1, 0));
        dueThrow("gain(0, -1)", () -> x.gain(0, -1));
        dueThrow("nobody there", () -> new NinthDayHooded().gain(0, 1));
    }

    @Says("HOOD days (bits) on which a ferry goes: n (1 .. 3) PEOPLE or more of two STREETS (together) SEE. NONE: others.")
    private static void p35OneToThree() {
        NinthDayHooded x = townOf("00;00;18;28;34");
        due("one", 511, x.ferry(0, 8, 1));
        due("two", 511, x.ferry(0, 8, 2));
        due("three: not on day 0", 510, x.ferry(0, 8, 3));
        due("two of one street", 510, x.ferry(0, 0, 2));
        due("it counts once", 0, x.ferry(0, 0, 3));
        due("an empty street", 0, x.ferry(5, 6, 1));
        due("n 0", NONE, x.ferry(0, 8, 0));
        due("n 4", NONE, x.ferry(0, 8, 4));
        due("street 9", NONE, x.ferry(9, 0, 1));
        due("street 9", NONE, x.ferry(0, 9, 1));
        due("street -1", NONE, x.ferry(-1, 0, 1));
        due("street -1", NONE, x.ferry(0, -1, 1));
    }

    // ---- wishes, rings

    @Says("how many WISHES there are. -2: 12 are there; NONE: others, like ones.")
    private static void p36TwelveAreThereOrOthers() {
        NinthDayHooded x = townOf(FOUR);
        due("like ones", NONE, x.wish(0, 0, 1));
        due("none such", NONE, x.wish(4, 0, 1));
        due("none such", NONE, x.wish(0, 4, 1));
        due("none such", NONE, x.wish(-1, 0, 1));
        due("none such", NONE, x.wish(0, -1, 1));
        due("2", NONE, x.wish(0, 1, 2));
        due("-1", NONE, x.wish(0, 1, -1));
        due("none is there", 0, x.count(4));
        for (int i = 1; i <= 12; i++) {
            due("wish", i, x.wish(3, 2, i % 2));
        }
        due("a thirteenth", -2, x.wish(3, 2, 0));
        due("twelve", 12, x.count(4));
        due("those of two hoods", 6, x.met());
    }

    @Says("WISHES are forgotten: how many there were.")
    private static void p37NoneAndTwelve() {
        NinthDayHooded x = townOf(FOUR);
        due("none", 0, x.forget());
        for (int i = 1; i <= 12; i++) {
            x.wish(0, 1, 1);
        }
        due("twelve", 12, x.forget());
        due("none", 0, x.forget());
        due("none", 0, x.count(4));
        due("there is room again", 1, x.wish(0, 1, 1));
    }

    @Says("How many WISHES are met; the ROW: which (bits).")
    private static void p38NoneAndTheLast() {
        NinthDayHooded x = townOf(FOUR);
        due("none there", 0, x.met());
        dueRow("none there", x, 0);
        for (int i = 0; i < 11; i++) {
            x.wish(0, 1, 0);
        }
        due("none is met", 0, x.met());
        dueRow("none is met", x, 0);
        x.wish(1, 0, 1);
        due("the last is met", 1, x.met());
        dueRow("the last is met", x, 2048);
    }

    @Says("of as many nobody (NONE), then the least number, then the least HOOD: it; the ROW: its HOOD (NONE), how many are met.")
    private static void p39OfAsMany() {
        NinthDayHooded none = new NinthDayHooded();
        due("nobody there", NONE, none.please());
        dueRow("nobody there", none, -1, 0);
        NinthDayHooded x = townOf("00;00;10");
        due("no wishes", NONE, x.please());
        x.wish(0, 1, 1);
        due("it is met: nobody", NONE, x.please());
        dueRow("it is met: nobody", x, -1, 1);
        x.forget();
        x.wish(1, 0, 0);
        due("a or b: the least number", 0, x.please());
        dueRow("1 .. 8: the least hood", x, 1, 1);
        x.wish(2, 1, 1);
        due("b to 1 meets both", 1, x.please());
        dueRow("b to 1 meets both", x, 1, 2);
        NinthDayHooded y = townOf("50;50");
        y.wish(0, 1, 0);
        due("a", 0, y.please());
        dueRow("the least hood is 0", y, 0, 1);
    }

    @Says("all nine days being no less MANNED (as much wanting together, or less)")
    private static void p39NoLessManned() {
        NinthDayHooded x = townOf("00p;10p");
        x.task(0, 1);
        x.wish(0, 1, 1);
        due("one would be wanting", NONE, x.please());
        dueRow("one would be wanting", x, -1, 0);
        x.done();
        due("no task", 0, x.please());
        dueRow("no task", x, 1, 1);
        NinthDayHooded y = townOf("00p;00p");
        y.task(0, 2);
        y.wish(0, 1, 0);
        due("two on day 0, or one on each of two: as much", 0, y.please());
        dueRow("as much", y, 1, 1);
        y.done();
        y.task(0, 1);
        due("one, then none: less", 0, y.please());
        dueRow("less", y, 1, 1);
        NinthDayHooded z = townOf("00p;10p;20;33;44;55;66;77;88");
        z.task(0, 1);
        z.wish(0, 1, 1);
        z.wish(8, 7, 1);
        due("a and b may not, h to i's hood may", 7, z.please());
        dueRow("h to i's hood", z, 8, 1);
        z.wish(8, 6, 1);
        due("of nine the last: g's or h's hood meet one, as does g to i's", 6, z.please());
        dueRow("g to i's hood", z, 8, 1);
    }

    @Says("The fewest HOODS (1 .. 9) that PEOPLE can have, so that all WISHES are met: how many")
    private static void p40FewestHoods() {
        NinthDayHooded x = townOf(NINE);
        due("no wishes", 1, x.colours());
        dueRow("no wishes", x, 0, 0, 0, 0, 0, 0, 0, 0, 0);
        x.wish(8, 7, 0);
        due("two", 2, x.colours());
        dueRow("two", x, 0, 0, 0, 0, 0, 0, 0, 0, 1);
        for (int p = 4; p < 8; p++) {
            for (int q = p + 1; q <= 8; q++) {
                x.wish(p, q, 0);
            }
        }
        due("five of whom each wishes two with each", 5, x.colours());
        dueRow("five", x, 0, 0, 0, 0, 0, 1, 2, 3, 4);
        due("hoods stay", 8, x.of(8, 0));
    }

    @Says("the ROW: for each of PEOPLE a HOOD, from 0 on: the least row of those with as few.")
    private static void p40LeastRow() {
        NinthDayHooded x = townOf("50;50;50;50;50;50");
        int[][] apart = {{0, 3}, {0, 5}, {2, 1}, {2, 5}, {4, 1}, {4, 3}};
        for (int[] pair : apart) {
            x.wish(pair[0], pair[1], 0);
        }
        due("two are enough", 2, x.colours());
        dueRow("0 for c though it is ahead of d's 1", x, 0, 1, 0, 1, 0, 1);
        NinthDayHooded one = townOf("80");
        due("one alone", 1, one.colours());
        dueRow("from 0 on", one, 0);
        NinthDayHooded y = townOf("00;00;00;00");
        y.wish(0, 1, 0);
        y.wish(3, 1, 1);
        due("two", 2, y.colours());
        dueRow("c has the least, d has b's", y, 0, 1, 0, 1);
    }

    @Says("-2: they can't be met; 0: nobody is there.")
    private static void p40CannotBeMet() {
        NinthDayHooded none = new NinthDayHooded();
        due("nobody there", 0, none.colours());
        dueRow("nobody there", none);
        NinthDayHooded x = townOf(FOUR);
        x.wish(0, 1, 1);
        x.wish(1, 0, 0);
        due("both ways", -2, x.colours());
        x.forget();
        x.wish(0, 1, 1);
        x.wish(2, 3, 1);
        x.wish(1, 2, 1);
        due("all alike", 1, x.colours());
        x.wish(0, 3, 0);
        due("a and d by b and c", -2, x.colours());
        x.forget();
        x.wish(1, 0, 1);
        due("b and a alike", 1, x.colours());
        x.forget();
        x.wish(0, 1, 0);
        due("they wish two now", 2, x.colours());
        NinthDayHooded nine = townOf(NINE);
        for (int i = 0; i < 8; i++) {
            nine.wish(8, i, 1);
        }
        due("nine alike", 1, nine.colours());
        for (int i = 0; i < 4; i++) {
            due("wish", 9 + i, nine.wish(i, i + 1, i == 3 ? 0 : 1));
        }
        due("the last of twelve can't be met", -2, nine.colours());
    }

    @Says("of as good ones nobody (NONE), then the first: it; the ROW: how many are led by nobody, COST.")
    private static void p41OfAsGoodOnes() {
        NinthDayHooded x = townOf("00;10;20");
        due("b and c are as good: b", 1, x.friend(0));
        dueRow("a by b costs 0", x, 0, 0 + 8 + 8);
        trustText(x, 0, "009");
        due("nobody, as it is", NONE, x.friend(0));
        dueRow("nobody, as it is", x, 0, 0 + 8 + 8);
        ruleText(x, "7");
        due("the rule does not ask for trust: nobody", NONE, x.friend(1));
        dueRow("nobody", x, 0, 21);
        due("one alone", NONE, townOf("00").friend(0));
        NinthDayHooded y = townOf("00;10;20");
        due("a and b are as good: a", 0, y.friend(2));
        dueRow("c by a costs 0", y, 0, 8 + 8 + 0);
        NinthDayHooded nine = townOf("00;10;20;30;40;50;60;70;80");
        ruleText(nine, "(9-t)*(j=8)+(j<8)*9");
        due("a by i costs 0 instead of 8", 8, nine.friend(0));
        dueRow("i by any costs 9", nine, 0, 0 + 7 * 8 + 9);
        due("i by any costs 9", NONE, nine.friend(8));
        dueRow("nobody", nine, 0, 8 * 8 + 9);
    }

    @Says("in DAYS NOW .. NOW + 8 (no TRADES being learnt), the fewest are led by nobody in all, of those with the least COST in all")
    private static void p41FewestThenCost() {
        NinthDayHooded x = townOf("00;10;20");
        trustText(x, 0, "000");
        ruleText(x, "9-t+j*40");
        due("b leads a", 1, x.friend(0));
        dueRow("dearer than nobody, but led", x, 0, (0 + 40) + 8 + 8);
        NinthDayHooded y = townOf("00;10p;20");
        trustText(y, 0, "010");
        trustText(y, 2, "100");
        ruleText(y, "k*10");
        y.days(18);
        due("a learns p in this day", 1, y.learns(0, 0));
        due("nobody", NONE, y.friend(1));
        dueRow("a that had learnt p would cost c 10 more", y, 0, 10);
        NinthDayHooded z = townOf("80;00");
        ruleText(z, "d+9-t");
        z.day();
        due("b leads a in day 8, this is day 1", 1, z.friend(0));
        dueRow("day 8 and day 9", z, 0, 8 + 0 + 8);
    }

    @Says("-2: none such.")
    private static void p41NoneSuch() {
        NinthDayHooded x = townOf("00;10");
        x.friend(0);
        due("2", -2, x.friend(2));
        due("-1", -2, x.friend(-1));
        due("nobody there", -2, new NinthDayHooded().friend(0));
        dueRow("the row stays", x, 0, 0 + 8);
    }

    @Says("HOODS of two unlike ones are swapped: true. Refused: others.")
    private static void p42Others() {
        NinthDayHooded x = townOf(FOUR);
        due("like ones", false, x.swap(3, 3));
        due("none such", false, x.swap(4, 0));
        due("none such", false, x.swap(0, 4));
        due("none such", false, x.swap(-1, 0));
        due("none such", false, x.swap(0, -1));
        due("nothing to undo", 0, x.count(7));
        due("the first and the last", true, x.swap(0, 3));
        due("a", 4, x.of(0, 0));
        due("d", 0, x.of(3, 0));
        due("like hoods", true, x.swap(1, 3));
        due("both can be undone", 2, x.count(7));
    }

    private static NinthDayHooded liking(String... likes) {
        NinthDayHooded x = townOf("00;10;20;30;40;50");
        for (int p = 0; p < likes.length; p++) {
            likesText(x, p, likes[p]);
        }
        return x;
    }

    @Says("The shortest ring (2 .. 4 unlike ones) in which each would get the HOOD of the next (the last that of the first)")
    private static void p43TwoToFour() {
        NinthDayHooded two = liking("010000000", "100000000");
        due("two", 2, two.ring());
        dueRow("two", two, 0, 1);
        NinthDayHooded three = liking("001000000", "100000000", "010000000");
        due("three", 3, three.ring());
        dueRow("a gets c's, c gets b's, b gets a's", three, 0, 2, 1);
        NinthDayHooded four = liking("010000000", "001000000", "000100000", "100000000");
        due("four", 4, four.ring());
        dueRow("four", four, 0, 1, 2, 3);
        NinthDayHooded five = liking("010000000", "001000000", "000100000", "000010000", "100000000");
        due("five are too many", -2, five.ring());
        NinthDayHooded shortest = liking("010000000", "001000000", "100000000", "000001000", "000000000", "000100000");
        due("two are shorter than three", 2, shortest.ring());
        dueRow("d and f", shortest, 3, 5);
        NinthDayHooded alone = liking("900000000");
        due("one alone is no ring", -2, alone.ring());
    }

    @Says("and LIKES it more than its own: of as short ones the least row, begun with its least: how many; the ROW: they.")
    private static void p43MoreThanItsOwn() {
        due("as much is not more", -2, liking("110000000", "100000000").ring());
        due("more", 2, liking("120000000", "100000000").ring());
        due("the last too", -2, liking("010000000", "110000000").ring());
        NinthDayHooded least = liking("000110000", "001000000", "010000000", "100000000", "100000000");
        due("of as short ones", 2, least.ring());
        dueRow("the least row", least, 0, 3);
        NinthDayHooded later = liking("000000000", "000100000", "010000000", "001000000");
        due("three", 3, later.ring());
        dueRow("begun with its least", later, 1, 3, 2);
        NinthDayHooded same = townOf("00;00");
        likesText(same, 0, "900000000");
        due("one hood", -2, same.ring());
    }

    @Says("-2: there is none. ## Promise 44")
    private static void p43None() {
        due("nobody there", -2, new NinthDayHooded().ring());
        due("one there", -2, townOf("00").ring());
        due("no likes", -2, townOf(NINE).ring());
    }

    @Says("The ring that ring() tells swaps so: how many; the ROW as there. -2: there is none.")
    private static void p44NoneIsLeft() {
        NinthDayHooded x = liking("001000000", "100000000", "010000000");
        due("three", 3, x.turn());
        dueRow("three", x, 0, 2, 1);
        int[] hoods = {2, 0, 1, 3, 4, 5};
        for (int p = 0; p < 6; p++) {
            due("hood of " + p, hoods[p], x.of(p, 0));
        }
        due("none is left", -2, x.turn());
        due("hood stays", 2, x.of(0, 0));
        due("one to undo", 1, x.count(7));
        NinthDayHooded four = liking("010000000", "001000000", "000100000", "100000000");
        due("four", 4, four.turn());
        due("the last has that of the first", 0, four.of(3, 0));
        due("nobody there", -2, new NinthDayHooded().turn());
    }

    @Says("Rings swap so, one behind the other, till there is none: how many rings there would be; the ROW: HOODS then.")
    private static void p45TillThereIsNone() {
        NinthDayHooded none = new NinthDayHooded();
        due("nobody there", 0, none.rests());
        dueRow("nobody there", none);
        NinthDayHooded still = townOf("30;10");
        due("no ring", 0, still.rests());
        dueRow("as they are", still, 3, 1);
        NinthDayHooded x = liking("010000000", "100000000", "000100000", "001000000", "000001000", "000010000");
        due("three rings", 3, x.rests());
        dueRow("three rings", x, 1, 0, 3, 2, 5, 4);
        NinthDayHooded twice = liking("012000000", "100000000", "010000000");
        due("a with b, then a with c", 2, twice.rests());
        dueRow("a with b, then a with c", twice, 2, 0, 1, 3, 4, 5);
        due("hoods stay", 0, twice.of(0, 0));
        due("nothing to undo", 0, twice.count(7));
    }

    @Says("the ROW: the most it can be, if HOODS that are there are given to PEOPLE anew (each one's to one).")
    private static void p46EachOnesToOne() {
        NinthDayHooded none = new NinthDayHooded();
        due("nobody there", 0, none.liked());
        dueRow("nobody there", none, 0);
        NinthDayHooded x = townOf("00;10");
        due("no likes", 0, x.liked());
        dueRow("no likes", x, 0);
        likesText(x, 0, "590000009");
        likesText(x, 1, "090000009");
        due("as it is", 5 + 9, x.liked());
        dueRow("8 is not there, 1 is there once", x, 14);
        x.set(0, 0, 1);
        due("both have 1", 18, x.liked());
        dueRow("1 is there twice", x, 18);
        x.sheet(2, 2, 1, -1);
        due("the other way round", 9 + 0, x.liked());
        dueRow("the other way round", x, 14);
        NinthDayHooded nine = townOf(NINE);
        for (int p = 0; p < 9; p++) {
            StringBuilder b = new StringBuilder("000000000");
            b.setCharAt(8 - p, '9');
            likesText(nine, p, b.toString());
        }
        due("e alone has what it likes", 9, nine.liked());
        dueRow("all can have it", nine, 81);
    }

    // ---- thefts, witnesses

    @Says("One of PEOPLE was robbed in a DAY (0 .. 999): how many thefts were told. Refused: others, 10.")
    private static void p47TenAndOthers() {
        NinthDayHooded x = townOf(FOUR);
        due("none such", NONE, x.theft(4, 0));
        due("none such", NONE, x.theft(-1, 0));
        due("day 1000", NONE, x.theft(0, 1000));
        due("day -1", NONE, x.theft(0, -1));
        due("none", 0, x.count(5));
        due("day 0", 1, x.theft(0, 0));
        due("day 999", 2, x.theft(3, 999));
        for (int i = 3; i <= 10; i++) {
            due("theft", i, x.theft(1, i));
        }
        due("an eleventh", NONE, x.theft(1, 1));
        due("ten", 10, x.count(5));
        due("it is not there", NONE, x.suspects(10));
        due("the tenth is", true, x.suspects(9) >= 0);
    }

    @Says("They are forgotten: how many there were.")
    private static void p48NoneAndTen() {
        NinthDayHooded x = townOf(FOUR);
        due("none", 0, x.pardon());
        for (int i = 0; i < 10; i++) {
            x.theft(0, i);
        }
        due("ten", 10, x.pardon());
        due("none", 0, x.pardon());
        due("none", 0, x.count(5));
        due("none such", NONE, x.suspects(0));
        due("there is room again", 1, x.theft(0, 0));
    }

    @Says("SEES in that DAY, is not the one robbed, lives 2 STREETS from it at most;")
    private static void p49TwoStreets() {
        NinthDayHooded x = townOf("50;11;12;13;14;15;16;17;18");
        x.theft(0, 0);
        due("streets 1, 2, 7, 8", 4, x.suspects(0));
        dueRow("streets 1, 2, 7, 8", x, 2 + 4 + 128 + 256);
        x.set(1, 0, 0);
        due("b is hooded then", 3, x.suspects(0));
        dueRow("b is hooded then", x, 4 + 128 + 256);
        x.set(2, 1, 0);
        due("in its own street", 3, x.suspects(0));
        x.theft(8, 0);
        due("of street 8: a, c in 0, g in 6, h in 7", 4, x.suspects(1));
        dueRow("of street 8", x, 1 + 4 + 64 + 128);
    }

    @Says("if the one robbed was HOODED then: it has TRUST of 1 or more in it as well: how many; the ROW: they (bits).")
    private static void p49TrustOfOneRobbed() {
        NinthDayHooded x = townOf("00;10;20;30");
        trustText(x, 0, "0019");
        trustText(x, 2, "0000");
        x.theft(0, 0);
        due("trust 1 and 9", 2, x.suspects(0));
        dueRow("trust 1 and 9", x, 4 + 8);
        x.theft(0, 4);
        due("it was not hooded", 3, x.suspects(1));
        dueRow("it was not hooded", x, 2 + 4 + 8);
        x.theft(0, 999);
        due("day 999 is hood day 0", 2, x.suspects(2));
        trustText(x, 0, "0000");
        due("it trusts nobody", 0, x.suspects(0));
        dueRow("nobody", x, 0);
    }

    @Says("Who can have done a theft (0 ..)")
    private static void p49NoneSuch() {
        NinthDayHooded x = townOf("00;10");
        due("none told", NONE, x.suspects(0));
        x.theft(0, 1);
        x.theft(0, 2);
        due("b is hooded", 0, x.suspects(0));
        due("b", 1, x.suspects(1));
        due("2", NONE, x.suspects(2));
        due("-1", NONE, x.suspects(-1));
        dueRow("the row stays", x, 2);
    }

    @Says("Who can have done all thefts (bits); the ROW: the fewest of PEOPLE of whom each theft has one that can have done it")
    private static void p50NoTheftAndAll() {
        NinthDayHooded none = new NinthDayHooded();
        due("nobody there", 0, none.thief());
        dueRow("nobody there", none, 0, 0);
        NinthDayHooded x = townOf(NINE);
        due("no theft: all of them", 511, x.thief());
        dueRow("no theft: nobody is needed", x, 0, 0);
        NinthDayHooded ring = townOf("00;10;20;30;40;50;60;70;80");
        for (int p = 0; p < 9; p++) {
            StringBuilder b = new StringBuilder("000000000");
            b.setCharAt((p + 1) % 9, '1');
            trustText(ring, p, b.toString());
            ring.theft(p, p);
        }
        due("each by the next alone", 0, ring.thief());
        dueRow("all nine", ring, 9, 511);
        ring.theft(8, 8);
        due("ten thefts", 0, ring.thief());
        dueRow("all nine", ring, 9, 511);
    }

    @Says("(NONE: some theft has none), they (bits; of as few the least; 0 for NONE).")
    private static void p50SomeTheftHasNone() {
        NinthDayHooded x = townOf("00;10;20;34");
        x.theft(0, 5);
        due("b or c", 6, x.thief());
        dueRow("of as few the least", x, 1, 2);
        x.theft(1, 5);
        due("c", 4, x.thief());
        dueRow("c", x, 1, 4);
        x.theft(2, 5);
        due("nobody alone", 0, x.thief());
        dueRow("a and b are the least of two", x, 2, 3);
        x.theft(3, 5);
        due("d has nobody near", 0, x.thief());
        dueRow("some theft has none", x, -1, 0);
    }

    @Says("who lives there or in one beside it: each that SEES counts 2, each that is HOODED 1: how much")
    private static void p51Beside() {
        NinthDayHooded x = townOf("00;11;12;17;08");
        due("street 0: 8, 0, 1", 1 + 2 + 1, x.witness(0, 0));
        dueRow("b sees, a and e are hooded", x, 2, 1 + 16);
        due("street 8: 7, 8, 0", 2 + 1 + 1, x.witness(8, 0));
        dueRow("d sees, a and e are hooded", x, 8, 1 + 16);
        due("street 4", 0, x.witness(4, 0));
        dueRow("nobody", x, 0, 0);
        NinthDayHooded all = townOf("00;00;00;00;00;00;00;00;00");
        due("all see", 18, all.witness(0, 1));
        dueRow("all see", all, 511, 0);
        due("all are hooded", 9, all.witness(0, 0));
        dueRow("all are hooded", all, 0, 511);
    }

    @Says("Witnesses of what is done in a STREET (0 .. 8) in a DAY (0 .. 999)")
    private static void p51Others() {
        NinthDayHooded x = townOf("00");
        due("day 0", 1, x.witness(0, 0));
        due("day 998", 2, x.witness(0, 998));
        due("day 999", 1, x.witness(8, 999));
        due("day 1000", NONE, x.witness(0, 1000));
        due("day -1", NONE, x.witness(0, -1));
        due("street 9", NONE, x.witness(9, 0));
        due("street -1", NONE, x.witness(-1, 0));
        dueRow("the row stays", x, 0, 1);
    }

    @Says("The first DAY, of the next n (1 .. 40; this one first), in which witness() of a STREET is v (0 .. 20) or less: how many DAYS on.")
    private static void p52ThisOneFirst() {
        NinthDayHooded x = townOf("40");
        due("this one", 0, x.dark(0, 2, 1));
        due("four days on", 4, x.dark(0, 1, 5));
        due("four days on, of forty", 4, x.dark(0, 1, 40));
        x.days(4);
        due("this one", 0, x.dark(0, 1, 1));
        x.day();
        due("eight days on", 8, x.dark(0, 1, 9));
        due("v 20", 0, x.dark(0, 20, 1));
        due("v 0 where nobody lives", 0, x.dark(4, 0, 1));
        due("beside it", -2, x.dark(1, 1, 1));
        due("beside it, round the ring", -2, x.dark(8, 1, 1));
        due("two streets off", 0, x.dark(2, 0, 1));
        due("two streets off, round the ring", 0, x.dark(7, 0, 1));
    }

    @Says("how many DAYS on. -2: none; NONE: others.")
    private static void p52NoneAndOthers() {
        NinthDayHooded x = townOf("40");
        due("a day too few", -2, x.dark(0, 1, 4));
        due("never", -2, x.dark(0, 0, 40));
        due("n 0", NONE, x.dark(0, 2, 0));
        due("n 41", NONE, x.dark(0, 2, 41));
        due("n -1", NONE, x.dark(0, 2, -1));
        due("v -1", NONE, x.dark(0, -1, 1));
        due("v 21", NONE, x.dark(0, 21, 1));
        due("street 9", NONE, x.dark(9, 2, 1));
        due("street -1", NONE, x.dark(-1, 2, 1));
        due("street 8", 0, x.dark(8, 2, 1));
    }

    // ---- seeds

    @Says("R = R times 1103515245 + 12345 (as ints; R is seed at first), (R without sign, by 65536) % n.")
    private static void p53WithoutSign() {
        int[] seeds = {0, 1, -1, 2, Integer.MAX_VALUE, Integer.MIN_VALUE, 1000000007, -1000000007, 77, 31337};
        for (int seed : seeds) {
            NinthDayHooded x = new NinthDayHooded();
            due("comes(" + seed + ")", 0, x.comes(seed));
            long r = seed & 0xFFFFFFFFL;
            int[] of = {9, 9, 64};
            for (int what = 0; what <= 2; what++) {
                r = (r * 1103515245L + 12345L) & 0xFFFFFFFFL;
                due("seed " + seed + ", what " + what, (int) (r / 65536 % of[what]), x.of(0, what));
            }
        }
    }

    @Says("its number; TRUST 1, LIKES 0, as all are at first.")
    private static void p53AsAllAreAtFirst() {
        NinthDayHooded x = townOf("00;10");
        trustText(x, 0, "00");
        likesText(x, 0, "999999999");
        x.days(30);
        due("its number", 2, x.comes(3));
        due("trust of it", 1, x.trusts(2, 0));
        due("trust in it", 1, x.trusts(0, 2));
        due("another's trust stays", 0, x.trusts(0, 1));
        for (int h = 0; h <= 8; h++) {
            x.set(2, 0, h);
            due("likes", 0, x.of(2, 3));
        }
        for (int t = 0; t < 6; t++) {
            due("no lessons", 0, x.lessons(2, t));
        }
    }

    @Says("Refused: 9 are there.")
    private static void p53NineAreThere() {
        NinthDayHooded x = townOf("00;11;22;33;44;55;66;77");
        x.day();
        due("the ninth", 8, x.comes(5));
        x.day();
        due("a tenth", NONE, x.comes(5));
        due("nine", 9, x.count(0));
        due("a refused call forgets nothing", 1, x.count(7));
    }

    @Says("(What can be undone is forgotten.)")
    private static void p53WhatCanBeUndoneIsForgotten() {
        NinthDayHooded x = townOf("00;10");
        x.day();
        x.swap(0, 1);
        due("two", 2, x.count(7));
        x.comes(1);
        due("none", 0, x.count(7));
        due("none", NONE, x.undo());
        due("now", 1, x.count(1));
        due("hood", 1, x.of(0, 0));
    }

    // ---- kept

    @Says("are kept under a number 0 .. 1: true. Refused: others.")
    private static void p54ZeroAndOne() {
        NinthDayHooded x = townOf(FOUR);
        due("0", true, x.keep(0));
        x.day();
        due("1", true, x.keep(1));
        due("2", false, x.keep(2));
        due("-1", false, x.keep(-1));
        x.day();
        due("again(0)", true, x.again(0));
        due("day 0", 0, x.count(1));
        due("again(1)", true, x.again(1));
        due("day 1", 1, x.count(1));
        x.days(4);
        due("0 anew", true, x.keep(0));
        x.days(4);
        due("again(0)", true, x.again(0));
        due("day 5", 5, x.count(1));
    }

    @Says("NOW, HOODS, STREETS, TRADES, LESSONS, THE BOOK are kept")
    private static void p54WhatIsKept() {
        NinthDayHooded x = townOf("00;10p;20");
        x.days(10);
        x.keep(1);
        x.days(30);
        x.set(0, 0, 7);
        x.set(0, 1, 7);
        x.set(0, 2, 60);
        trustText(x, 0, "055");
        x.task(0, 1);
        due("again", true, x.again(1));
        due("now", 10, x.count(1));
        due("hood", 0, x.of(0, 0));
        due("street", 0, x.of(0, 1));
        due("trades", 0, x.of(0, 2));
        due("lessons", 2, x.lessons(0, 0));
        due("days in the book", 10, x.count(6));
        due("who led", 1, x.led(0, 1));
        due("not known", -4, x.led(0, 11));
        due("trust stays", 5, x.trusts(0, 1));
        due("tasks stay", 1, x.count(3));
        NinthDayHooded nine = townOf("00u;11;22;33;44;55;66;77;88");
        ruleText(nine, "j");
        nine.days(9);
        nine.keep(0);
        nine.days(9);
        nine.set(8, 0, 0);
        nine.set(8, 1, 0);
        nine.set(8, 2, 63);
        nine.again(0);
        due("one lesson of the last", 1, nine.lessons(8, 5));
        due("hood of the last", 8, nine.of(8, 0));
        due("street of the last", 8, nine.of(8, 1));
        due("trades of the last", 0, nine.of(8, 2));
    }

    @Says("They are as they were kept under a number. Refused: nothing kept, PEOPLE came since.")
    private static void p55NothingKeptOrPeopleCame() {
        NinthDayHooded x = townOf("00;10");
        due("nothing kept", false, x.again(0));
        due("nothing kept", false, x.again(1));
        x.keep(0);
        x.day();
        due("nothing kept under 1", false, x.again(1));
        due("2", false, x.again(2));
        due("-1", false, x.again(-1));
        due("day 1", 1, x.count(1));
        x.town();
        due("an empty town brings nobody", true, x.again(0));
        due("day 0", 0, x.count(1));
        x.day();
        townText(x, "20");
        due("by a town", false, x.again(0));
        due("day 1", 1, x.count(1));
        x.keep(1);
        x.comes(1);
        due("by a seed", false, x.again(1));
        x.keep(0);
        due("kept since", true, x.again(0));
        due("not under 1", false, x.again(1));
        NinthDayHooded none = new NinthDayHooded();
        none.keep(0);
        none.day();
        due("nobody there, nobody came", true, none.again(0));
        due("day 0", 0, none.count(1));
        townText(none, "00");
        due("the first came", false, none.again(0));
    }

    @Says("8: numbers of the ROW, 9: signs of THE TEXT. NONE for another what.")
    private static void p56AnotherWhat() {
        NinthDayHooded x = townOf(FOUR);
        x.task(0, 1);
        x.wish(0, 1, 1);
        x.wish(0, 1, 1);
        x.theft(0, 0);
        x.theft(0, 0);
        x.theft(0, 0);
        x.days(40);
        x.days(5);
        x.guides(0);
        type(x, "00000");
        int[] counts = {4, 45, 3, 1, 2, 3, 30, 2, 4, 5};
        for (int what = 0; what <= 9; what++) {
            due("count(" + what + ")", counts[what], x.count(what));
        }
        due("10", NONE, x.count(10));
        due("-1", NONE, x.count(-1));
        due("the greatest", NONE, x.count(Integer.MAX_VALUE));
        due("the least", NONE, x.count(Integer.MIN_VALUE));
    }

    @Says("Number i of the ROW. NoSuchElementException: none such.")
    private static void p57NoneSuch() {
        NinthDayHooded x = townOf(FOUR);
        dueThrow("no row", () -> x.row(0));
        x.guides(0);
        due("the first", 9 + 8, x.row(0));
        due("the last", 2, x.row(3));
        dueThrow("behind the last", () -> x.row(4));
        dueThrow("-1", () -> x.row(-1));
        dueThrow("the greatest", () -> x.row(Integer.MAX_VALUE));
        dueThrow("the least", () -> x.row(Integer.MIN_VALUE));
        x.mends();
        dueThrow("an empty row", () -> x.row(0));
        x.sheet(2, 9, 0, 0);
        townText(x, "00;00;00;00;00");
        x.guides(0);
        due("the last of eleven", NONE, x.row(10));
        dueThrow("a twelfth", () -> x.row(11));
    }
}
