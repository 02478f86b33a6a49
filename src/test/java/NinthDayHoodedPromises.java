import java.util.Arrays;
import java.util.NoSuchElementException;

/** Each promise of the document by hand: ordinary inputs, the edges that it names, and wrong inputs. */
public final class NinthDayHoodedPromises {
    private static final int NONE = NinthDayHooded.NONE;
    /** Four people: a hooded on day 0 in street 0 with p q, b 0 1, c 1 1 with r, d 4 8 with p. */
    private static final String FOUR = "00pq;01;11r;48p";

    private static int wrong = 0;
    private static int asked = 0;

    public static void main(String[] args) {
        newObject();
        sign();
        end();
        town();
        townSigns();
        trust();
        likes();
        ruleValues();
        ruleFaults();
        ruleSigns();
        of();
        trusts();
        lessons();
        set();
        sheet();
        cost();
        guides();
        lonely();
        hardest();
        day();
        days();
        season();
        seasonFaults();
        undo();
        led();
        leads();
        ahead();
        learns();
        task();
        done();
        manned();
        bare();
        blindest();
        mends();
        mend();
        newcomer();
        needed();
        gain();
        ferry();
        wish();
        forget();
        met();
        please();
        colours();
        friend();
        swap();
        ring();
        turn();
        rests();
        liked();
        theft();
        pardon();
        suspects();
        thief();
        witness();
        dark();
        comes();
        keep();
        again();
        count();
        row();
        System.out.println(wrong == 0 ? "all " + asked + " answers are as due" : wrong + " answers are not as due");
        if (wrong != 0) {
            System.exit(1);
        }
    }

    // ---- helpers

    private static void due(String what, int want, int got) {
        asked++;
        if (got != want) {
            wrong++;
            System.out.println(what + " answered " + got + ", due is " + want);
        }
    }

    private static void due(String what, boolean want, boolean got) {
        due(what, want ? 1 : 0, got ? 1 : 0);
    }

    private static void dueRow(String what, NinthDayHooded x, int... want) {
        asked++;
        int[] got = new int[x.count(8)];
        for (int i = 0; i < got.length; i++) {
            got[i] = x.row(i);
        }
        if (!Arrays.equals(got, want)) {
            wrong++;
            System.out.println(what + " told the row " + Arrays.toString(got) + ", due is " + Arrays.toString(want));
        }
    }

    private interface Call {
        int answer();
    }

    private static void dueThrow(String what, Call call) {
        asked++;
        try {
            int got = call.answer();
            wrong++;
            System.out.println(what + " answered " + got + ", due is NoSuchElementException");
        } catch (NoSuchElementException e) {
            // This is due.
        }
    }

    private static NinthDayHooded type(NinthDayHooded x, String text) {
        for (int i = 0; i < text.length(); i += 4) {
            int v = 0;
            for (int k = 0; k < 4; k++) {
                v = v << 8 | (i + k < text.length() ? text.charAt(i + k) : 0);
            }
            x.sign(v);
        }
        x.end(text.length());
        return x;
    }

    private static NinthDayHooded townOf(String text) {
        NinthDayHooded x = new NinthDayHooded();
        type(x, text).town();
        return x;
    }

    private static int trustText(NinthDayHooded x, int person, String text) {
        return type(x, text).trust(person);
    }

    private static int likesText(NinthDayHooded x, int person, String text) {
        return type(x, text).likes(person);
    }

    private static int ruleText(NinthDayHooded x, String text) {
        return type(x, text).rule();
    }

    private static int seasonText(NinthDayHooded x, String text) {
        return type(x, text).season();
    }

    private static String times(int n, String text) {
        return text.repeat(n);
    }

    // ---- the town

    private static void newObject() {
        NinthDayHooded x = new NinthDayHooded();
        for (int what = 0; what <= 9; what++) {
            due("new: count(" + what + ")", 0, x.count(what));
        }
        due("NONE", -1, NinthDayHooded.NONE);
        dueThrow("new: row(0)", () -> x.row(0));
        dueThrow("new: of(0, 0)", () -> x.of(0, 0));
        due("new: again(0)", false, x.again(0));
        due("new: undo()", NONE, x.undo());
    }

    private static void sign() {
        NinthDayHooded x = new NinthDayHooded();
        for (int i = 1; i <= 20; i++) {
            due("sign " + i, 4 * i, x.sign(-1));
        }
        due("sign of 84", NONE, x.sign(0));
        due("refused sign changes nothing", 80, x.count(9));
        x.end(77);
        due("sign of 81", NONE, x.sign(0));
        x.end(76);
        due("sign of 80", 80, x.sign(0));
        NinthDayHooded y = new NinthDayHooded();
        y.sign(0x38377075);
        due("the highest byte is first", 1, y.town());
        due("hood of the first byte", 8, y.of(0, 0));
        due("street of the second byte", 7, y.of(0, 1));
        due("trades of the last bytes", 33, y.of(0, 2));
        y.sign(0xFF303030);
        due("a byte above 127", -1, y.town());
    }

    private static void end() {
        NinthDayHooded x = new NinthDayHooded();
        due("end(0) of none", true, x.end(0));
        due("end(1) of none", false, x.end(1));
        x.sign(0x30303B31);
        due("end(5)", false, x.end(5));
        due("end(-1)", false, x.end(-1));
        due("refused end changes nothing", 4, x.count(9));
        due("end(4)", true, x.end(4));
        due("end(3)", true, x.end(3));
        due("signs left", 3, x.count(9));
        due("end(4) of three", false, x.end(4));
        due("end(2)", true, x.end(2));
        due("the first two are a line", 1, x.town());
    }

    private static void town() {
        NinthDayHooded x = new NinthDayHooded();
        due("an empty town", 0, x.town());
        due("four lines", 4, type(x, FOUR).town());
        due("town empties the text", 0, x.count(9));
        due("people", 4, x.count(0));
        due("trades of a", 3, x.of(0, 2));
        due("trades of b", 0, x.of(1, 2));
        due("trades of c", 4, x.of(2, 2));
        due("hood of d", 4, x.of(3, 0));
        due("street of d", 8, x.of(3, 1));
        String[] bad = {"x", "9", "0", "09", "00;", "00;;", "00x", "00v", "00o", "00qp", "00pp", "00pqrstuu", "00 ;11", "00p;1",
            "0", ";", "00pq;8"};
        int[] at = {0, 0, 1, 1, 3, 3, 2, 2, 2, 3, 3, 8, 2, 5, 1, 0, 6};
        for (int i = 0; i < bad.length; i++) {
            due("town of " + bad[i], -1 - at[i], type(x, bad[i]).town());
            due("a refused town empties the text", 0, x.count(9));
            due("nothing came", 4, x.count(0));
        }
        due("a line too many", -1 - 15, type(x, "00;00;00;00;00;00").town());
        due("an earlier fault", -1 - 4, type(x, "00;0x;00;00;00;00").town());
        due("behind the last ; with room", -1 - 15, type(x, "00;00;00;00;00;").town());
        due("five more", 5, type(x, "00;00;00;00;00").town());
        due("no room at all", -1, type(x, "00").town());
        due("an empty town has room", 0, x.town());
        String eight = times(8, "12pqrstu;");
        NinthDayHooded y = new NinthDayHooded();
        due("77 signs", -1 - 76, type(y, eight + "12pqr").town());
        due("80 signs with a fault at 75", -1 - 75, type(y, eight + "12pp5555").town());
        due("76 signs", 9, type(y, eight + "12pq").town());
        due("the ninth's trades", 3, y.of(8, 2));
        NinthDayHooded z = new NinthDayHooded();
        due("76 signs that go on", -1 - 76, type(z, eight + "12pq;").town());
        due("nobody came", 0, z.count(0));
    }

    /** Every sign at every kind of place. */
    private static void townSigns() {
        String[] ahead = {"", "0", "00", "00r", "00u", "00;", "00pq;3"};
        String[] good = {"012345678", "012345678", "pqrstu;", "stu;", ";", "012345678", "012345678"};
        for (int i = 0; i < ahead.length; i++) {
            for (int c = 0; c < 256; c++) {
                NinthDayHooded x = new NinthDayHooded();
                int p = ahead[i].length();
                int got = type(x, ahead[i] + (char) c + "").town();
                boolean stands = good[i].indexOf(c) >= 0;
                due("town of " + ahead[i] + " and sign " + c, stands, got != -1 - p);
            }
        }
    }

    private static void trust() {
        NinthDayHooded x = townOf(FOUR);
        due("trust(1)", 4, trustText(x, 1, "9876"));
        due("trust in a", 9, x.trusts(1, 0));
        due("trust in c", 7, x.trusts(1, 2));
        due("trust in d", 6, x.trusts(1, 3));
        due("others' trust stays", 1, x.trusts(0, 1));
        due("the text is empty", 0, x.count(9));
        due("too short", -1 - 3, trustText(x, 1, "000"));
        due("too long", -1 - 4, trustText(x, 1, "00000"));
        due("no digit", -1 - 2, trustText(x, 1, "00:0"));
        due("no digit below", -1 - 2, trustText(x, 1, "00/0"));
        due("no digit for itself", -1 - 1, trustText(x, 1, "0x00"));
        due("none", -1, trustText(x, 1, ""));
        due("refused ones change nothing", 9, x.trusts(1, 0));
        due("no such one", -100, trustText(x, 4, "0000"));
        due("no such one empties the text", 0, x.count(9));
        due("asked first", -100, trustText(x, -1, "xx"));
        type(x, "55").town();
        due("a newcomer trusts 1", 1, x.trusts(4, 1));
        due("a newcomer is trusted 1", 1, x.trusts(1, 4));
    }

    private static void likes() {
        NinthDayHooded x = townOf(FOUR);
        due("at first", 0, x.of(0, 3));
        due("likes(0)", 9, likesText(x, 0, "123456789"));
        due("of its hood", 1, x.of(0, 3));
        x.set(0, 0, 8);
        due("of another hood", 9, x.of(0, 3));
        due("too short", -1 - 8, likesText(x, 0, "00000000"));
        due("too long", -1 - 9, likesText(x, 0, "0000000000"));
        due("no digit", -1 - 4, likesText(x, 0, "0000a0000"));
        due("none", -1, likesText(x, 0, ""));
        due("refused ones change nothing", 9, x.of(0, 3));
        due("no such one", -100, likesText(x, 4, "000000000"));
        due("asked first", -100, likesText(x, -1, ""));
        due("the text is empty", 0, x.count(9));
    }

    /** Of a and b in day 2: t 3, u 5, r 4, k 2, d 2, i 0, j 1. */
    private static NinthDayHooded ruled() {
        NinthDayHooded x = townOf("00p;14pqr");
        trustText(x, 0, "03");
        trustText(x, 1, "50");
        x.days(2);
        return x;
    }

    private static void ruleValues() {
        NinthDayHooded x = ruled();
        due("no rule: 9-t+r", 10, x.cost(0, 1));
        due("no rule, the other way", 8, x.cost(1, 0));
        String[] rules = {"t", "u", "r", "k", "d", "i", "j", "t*10+u", "7-2-1", "2+3*4", "40/3/2", "12/3*4", "12*3/4", "10-7/2",
            "10+-7/2", "10-(-7/2)", "5/0", "9+5/(t-3)", "1<2", "2<1", "2>1", "1>1", "1=1", "1=2", "1+1=2", "3>2+5",
            "(1<2)+(2<3)", "(1<2)<3", "1<(2<3)", "--5", "5---2", "-5*-3", "2*-3+9", "9/-2+9", "((((7))))", "(1)+((2))+(((3)))",
            "999", "99", "100", "0-1", "-1", "007", "256*256*256*256+7", "50+(256*256*256*128<0)", "50+((256*256*256*128)/-1<0)",
            "-(2-9)*3", "2-3+9", "8-2*3", "-2+9", "-(-(-(-4)))", "t+u*r-k/d<j+30", "10*(t<u)+(t=3)", "----------------------9"};
        int[] costs = {3, 5, 4, 2, 2, 0, 1, 35, 4, 14, 6, 16, 9, 7, 7, 13, 0, 9, 1, 0, 1, 0, 1, 0, 1, 0,
            2, 1, 0, 5, 3, 15, 3, 5, 7, 6, 99, 99, 99, 0, 0, 7, 7, 51, 51,
            21, 8, 2, 7, 4, 1, 11, 9};
        for (int i = 0; i < rules.length; i++) {
            due("rule " + rules[i], 0, ruleText(x, rules[i]));
            due("cost by " + rules[i], costs[i], x.cost(0, 1));
        }
        ruleText(x, "10*i+j");
        due("first and second", 10, x.cost(1, 0));
        ruleText(x, "k");
        due("trades that the first has not", 0, x.cost(1, 0));
        due("no rule again", 0, x.rule());
        due("9-t+r again", 10, x.cost(0, 1));
    }

    private static void ruleFaults() {
        NinthDayHooded x = ruled();
        ruleText(x, "42");
        String[] bad = {"x", "t+", "t<u<r", "(t", "(((((t", "1000", "t<u=r", "()", "(t))", "tt", "t1", "1t", "t(", "2(", "+1", "*", "t+*2",
            "(1<2<3)", "(1<2)<3<4", "-", "(", "1+(2", "1 ", "t<", "t<-", "((((", "((((5)", "(1)2", "~1", "1~2", "T", ")", "12)", "1;"};
        int[] at = {0, 2, 3, 2, 4, 3, 3, 1, 3, 1, 1, 1, 1, 1, 0, 0, 2,
            4, 7, 1, 1, 4, 1, 2, 3, 4, 6, 3, 0, 1, 0, 0, 2, 1};
        for (int i = 0; i < bad.length; i++) {
            due("rule " + bad[i], -1 - at[i], ruleText(x, bad[i]));
            due("a refused rule empties the text", 0, x.count(9));
            due("the rule stays", 42, x.cost(0, 1));
        }
        due("41 signs", -1 - 40, ruleText(x, times(20, "1+") + "1"));
        due("41 signs, the last wrong", -1 - 40, ruleText(x, times(20, "1+") + "x"));
        due("80 signs, a fault at 39", -1 - 39, ruleText(x, times(19, "1+") + "1x" + times(40, "1")));
        due("the rule stays", 42, x.cost(0, 1));
        due("40 signs", 0, ruleText(x, times(19, "1+") + "12"));
        due("of 40 signs", 31, x.cost(0, 1));
        due("40 signs that end too early", -1 - 40, ruleText(x, times(20, "1+")));
        due("40 signs of -", 0, ruleText(x, times(38, "-") + "77"));
        due("an even many", 77, x.cost(0, 1));
    }

    /** Every sign at every kind of place. */
    private static void ruleSigns() {
        String things = "0123456789tukrdij";
        String[] ahead = {"", "t", "5", "55", "555", "t+", "-", "t<u", "(t", "(t<u", "((((", "(t)", "t<"};
        String[] good = {things + "-(", "+-*/<>=", "0123456789+-*/<>=", "0123456789+-*/<>=", "+-*/<>=", things + "-(", things + "-(",
            "+-*/", "+-*/<>=)", "+-*/)", things + "-", "+-*/<>=", things + "-("};
        for (int i = 0; i < ahead.length; i++) {
            for (int c = 0; c < 256; c++) {
                int p = ahead[i].length();
                int got = ruleText(new NinthDayHooded(), ahead[i] + (char) c);
                due("rule " + ahead[i] + " and sign " + c, good[i].indexOf(c) >= 0, got != -1 - p);
            }
        }
    }

    private static void of() {
        NinthDayHooded x = townOf(FOUR);
        likesText(x, 3, "000070000");
        int[] ofD = {4, 8, 1, 7, 4, 0};
        for (int what = 0; what <= 5; what++) {
            due("of(3, " + what + ")", ofD[what], x.of(3, what));
        }
        x.days(5);
        due("the hood day went by", 8, x.of(3, 4));
        x.days(8);
        due("it is this day", 0, x.of(3, 4));
        dueThrow("of(4, 0)", () -> x.of(4, 0));
        dueThrow("of(-1, 0)", () -> x.of(-1, 0));
        dueThrow("of(0, 6)", () -> x.of(0, 6));
        dueThrow("of(0, -1)", () -> x.of(0, -1));
        NinthDayHooded y = townOf("00;13pq;24q");
        y.day();
        due("a lesson", 1, y.of(0, 5));
        y.set(0, 2, 1);
        due("not in trades that it has", 0, y.of(0, 5));
        y.days(9);
        due("a lesson in the next", 1, y.of(0, 5));
        y.set(0, 2, 0);
        due("both", 2, y.of(0, 5));
    }

    private static void trusts() {
        NinthDayHooded x = townOf(FOUR);
        trustText(x, 2, "1209");
        due("trusts(2, 1)", 2, x.trusts(2, 1));
        due("trusts(2, 3)", 9, x.trusts(2, 3));
        due("trusts(1, 2)", 1, x.trusts(1, 2));
        due("like ones", NONE, x.trusts(2, 2));
        due("none such", NONE, x.trusts(4, 0));
        due("none such", NONE, x.trusts(0, 4));
        due("none such", NONE, x.trusts(-1, 0));
        due("none such", NONE, x.trusts(0, -1));
    }

    private static void lessons() {
        NinthDayHooded x = townOf("00;10qs");
        x.day();
        due("a lesson in the first trade", 1, x.lessons(0, 1));
        due("none in the second", 0, x.lessons(0, 3));
        x.days(9);
        due("two lessons", 2, x.lessons(0, 1));
        due("it has it not", 0, x.of(0, 2));
        x.days(9);
        due("three lessons", 3, x.lessons(0, 1));
        due("it has it", 2, x.of(0, 2));
        x.days(9);
        due("the next trade", 1, x.lessons(0, 3));
        due("no fourth", 3, x.lessons(0, 1));
        x.set(0, 2, 0);
        x.days(9);
        due("one behind the third", 4, x.lessons(0, 1));
        due("it has it again", 2, x.of(0, 2));
        due("the guide learns nothing", 0, x.lessons(1, 0));
        due("lessons(2, 0)", NONE, x.lessons(2, 0));
        due("lessons(-1, 0)", NONE, x.lessons(-1, 0));
        due("lessons(0, 6)", NONE, x.lessons(0, 6));
        due("lessons(0, -1)", NONE, x.lessons(0, -1));
    }

    private static void set() {
        NinthDayHooded x = townOf(FOUR);
        due("hood", 4, x.set(3, 0, 8));
        due("street", 8, x.set(3, 1, 0));
        due("trades", 1, x.set(3, 2, 63));
        due("hood is", 8, x.of(3, 0));
        due("street is", 0, x.of(3, 1));
        due("trades are", 63, x.of(3, 2));
        int[][] refused = {{3, 0, 9}, {3, 0, -1}, {3, 1, 9}, {3, 1, -1}, {3, 2, 64}, {3, 2, -1}, {3, 3, 0}, {3, -1, 0}, {4, 0, 0}, {-1, 0, 0}};
        for (int[] r : refused) {
            due("set" + Arrays.toString(r), NONE, x.set(r[0], r[1], r[2]));
        }
        due("hood stays", 8, x.of(3, 0));
        due("street stays", 0, x.of(3, 1));
        due("trades stay", 63, x.of(3, 2));
    }

    private static void sheet() {
        NinthDayHooded x = townOf(FOUR);
        due("ints", 5 + 8 + 8, x.sheet(2, 3, 5, 60));
        due("clamped", 8, x.of(1, 0));
        due("behind it", 0, x.of(3, 0));
        due("bytes: 260 is 4", 4, x.sheet(0, 1, 260, 0));
        due("bytes: 200 is below 0", 0 + 3, x.sheet(0, 2, 200, 59));
        due("shorts: 65541 is 5", 5 + 0, x.sheet(1, 2, 65541, 32763));
        due("shorts keep 260", 8, x.sheet(1, 1, 260, 0));
        due("ints wrap", 8 + 0, x.sheet(2, 2, Integer.MAX_VALUE, 1));
        due("steps back", 3 + 2 + 1 + 0, x.sheet(2, 4, 3, -1));
        due("more entries than people", 1 + 2 + 3 + 4, x.sheet(2, 9, 1, 1));
        due("kind 4", NONE, x.sheet(4, 1, 1, 1));
        due("kind -1", NONE, x.sheet(-1, 1, 1, 1));
        due("n 10", NONE, x.sheet(2, 10, 1, 1));
        due("n 10, missing", NONE, x.sheet(3, 10, 1, 1));
        due("kind 4 first", NONE, x.sheet(4, -1, 1, 1));
        due("n below 0", -2, x.sheet(0, -1, 1, 1));
        due("n below 0", -2, x.sheet(2, Integer.MIN_VALUE, 1, 1));
        due("nothing changed", 4, x.of(3, 0));
        due("missing", -3, x.sheet(3, -1, 1, 1));
        due("all 0", 0, x.of(3, 0));
        due("all 0", 0, x.of(0, 0));
        x.set(1, 0, 7);
        due("no entry", 0, x.sheet(1, 0, 5, 5));
        due("all 0", 0, x.of(1, 0));
    }

    // ---- days

    private static void cost() {
        NinthDayHooded x = townOf(FOUR);
        due("cost(0, 2)", 9, x.cost(0, 2));
        due("the shorter way round", 9, x.cost(0, 3));
        due("cost(1, 3)", 10, x.cost(1, 3));
        due("one that is not hooded", 8 + 2, x.cost(2, 3));
        ruleText(x, "d*10+1");
        due("day 0", 1, x.cost(0, 1));
        x.days(11);
        due("day 11", 21, x.cost(0, 1));
        dueThrow("cost(0, 0)", () -> x.cost(0, 0));
        dueThrow("cost(4, 0)", () -> x.cost(4, 0));
        dueThrow("cost(0, 4)", () -> x.cost(0, 4));
        dueThrow("cost(-1, 0)", () -> x.cost(-1, 0));
        dueThrow("cost(0, -1)", () -> x.cost(0, -1));
    }

    private static void guides() {
        NinthDayHooded x = townOf("00;00;00;10;20");
        ruleText(x, "7");
        due("five", 0, x.guides(0));
        dueRow("the least row", x, 21, 7, 3, 3, 4);
        ruleText(x, "j=4");
        x.guides(0);
        dueRow("the least cost", x, 1, 7, 3, 3, 4);
        ruleText(x, "(i=0)*(j=3)*5+1");
        x.guides(0);
        dueRow("cost is ahead of the row", x, 3, 7, 4, 3, 3);
        trustText(x, 1, "99909");
        trustText(x, 2, "99909");
        due("fewest nobody is ahead of cost", 0, x.guides(0));
        dueRow("a has the other one", x, 8, 7, 3, 4, 4);
        trustText(x, 0, "99909");
        due("three trust e alone", 1, x.guides(9));
        dueRow("nobody is the greatest", x, 2, 7, 4, 4, -1);
        due("trust 0 of the guide does not matter", 3, x.guides(0) + x.guides(1) + x.guides(2) + 2);
        due("nobody is hooded", 0, x.guides(999 / 9 * 9 - 1));
        dueRow("nobody is hooded", x, 0, 0);
        due("day 999", 1, x.guides(999));
        dueRow("day 999 is hood day 0", x, 2, 7, 4, 4, -1);
        due("day 1000", NONE, x.guides(1000));
        due("day -1", NONE, x.guides(-1));
        dueRow("a refused call leaves the row", x, 2, 7, 4, 4, -1);
        NinthDayHooded y = townOf("00;10;00");
        ruleText(y, "9-i*2");
        due("one leads two", 0, y.guides(0));
        dueRow("one leads two", y, 9 + 5, 5, 1, 1);
        NinthDayHooded z = townOf("00;10;00;00");
        ruleText(z, "9-i*2");
        due("none leads three", 1, z.guides(0));
        dueRow("the dearest is led by nobody", z, 5 + 3, 13, -1, 1, 1);
        NinthDayHooded all = townOf("33;33");
        due("all hooded", 2, all.guides(3));
        dueRow("all hooded", all, 0, 3, -1, -1);
        NinthDayHooded nine = townOf("00;00;00;00;00;00;00;00;00");
        due("nine hooded", 9, nine.guides(0));
        dueRow("nine hooded", nine, 0, 511, -1, -1, -1, -1, -1, -1, -1, -1, -1);
        nine.set(8, 0, 1);
        ruleText(nine, "99");
        due("eight hooded", 6, nine.guides(0));
        dueRow("the first two are led", nine, 198, 255, 8, 8, -1, -1, -1, -1, -1, -1);
        nine.set(7, 0, 1);
        nine.set(6, 0, 1);
        nine.set(5, 0, 1);
        due("five hooded", 0, nine.guides(0));
        dueRow("all as dear as can be", nine, 5 * 99, 31, 5, 5, 6, 6, 7);
        NinthDayHooded d = townOf("20;00;10");
        ruleText(d, "d*10+j");
        due("the day told counts", 0, d.guides(11));
        dueRow("not the day now", d, 21, 1, 1);
    }

    private static void lonely() {
        NinthDayHooded x = townOf("00;00;00;10");
        due("three for one", 4, x.lonely(0));
        dueRow("each could be led alone", x, 0);
        trustText(x, 1, "9990");
        due("b trusts only hooded ones", 2, x.lonely(0));
        dueRow("b could be led by none", x, 2);
        due("day 1", 0, x.lonely(1));
        dueRow("day 1", x, 0);
        due("day 999", 2, x.lonely(999));
        trustText(x, 0, "9990");
        due("the first too", 3, x.lonely(0));
        dueRow("the first too", x, 3);
        NinthDayHooded y = townOf("00;10");
        due("a could lead b", 0, y.lonely(1));
        dueRow("a could lead b", y, 0);
        x.lonely(0);
        trustText(x, 0, "9999");
        due("b alone", 2, x.lonely(0));
        due("day 1000", NONE, x.lonely(1000));
        due("day -1", NONE, x.lonely(-1));
        dueRow("a refused call leaves the row", x, 2);
    }

    private static void hardest() {
        NinthDayHooded x = townOf("00;14;28;30");
        ruleText(x, "r+1");
        trustText(x, 2, "0000");
        due("c is led by nobody", 2, x.hardest());
        dueRow("c is led by nobody", x, 1, 0);
        trustText(x, 2, "1111");
        due("the most cost", 1, x.hardest());
        dueRow("the most cost", x, 0, 5);
        ruleText(x, "5");
        due("the first day", 0, x.hardest());
        x.days(2);
        due("the first day from now", 2, x.hardest());
        x.days(2);
        due("the first of the next round", 0, x.hardest());
        dueRow("of equal ones", x, 0, 5);
        ruleText(x, "d");
        due("by the day", 3, x.hardest());
        NinthDayHooded nobody = new NinthDayHooded();
        nobody.days(5);
        due("nobody there", 5, nobody.hardest());
        dueRow("nobody there", nobody, 0, 0);
    }

    private static void day() {
        NinthDayHooded x = townOf("00;00;00;10p");
        ruleText(x, "i+1");
        due("two are led", 2, x.day());
        dueRow("cost and trades", x, 1 + 2, 0);
        due("it is day 1", 1, x.count(1));
        due("a has a lesson", 1, x.lessons(0, 0));
        due("c has none", 0, x.lessons(2, 0));
        due("day 1", 1, x.day());
        x.days(7);
        x.day();
        x.days(8);
        due("the third lesson", 2, x.day());
        dueRow("two trades", x, 1 + 2, 2);
        due("a has it", 1, x.of(0, 2));
    }

    private static void days() {
        NinthDayHooded x = townOf("00;00;00;10p");
        ruleText(x, "i+1");
        due("19 days", 2 + 1 + 2 + 1 + 2, x.days(19));
        dueRow("cost and trades", x, 3 + 4 + 3 + 4 + 3, 2);
        due("now", 19, x.count(1));
        due("no days", 0, x.days(0));
        dueRow("no days", x, 0, 0);
        due("no days can't be undone", 1, x.count(7));
        due("41", NONE, x.days(41));
        due("-1", NONE, x.days(-1));
        due("now", 19, x.count(1));
        // c learns too, when a and b have it: a guide with nothing new is as cheap, and the row decides.
        due("40", 4 * 2 + 5, x.days(40));
        due("now", 59, x.count(1));
        due("30 days in the book", 30, x.count(6));
    }

    private static void season() {
        NinthDayHooded x = townOf(FOUR);
        due("an empty season", 0, x.season());
        dueRow("an empty season", x, 0, 0);
        due("nothing to undo", 0, x.count(7));
        due("all acts", 6, seasonText(x, "d2;hb5;sad;mc7;d;d9"));
        dueRow("led: a and b, c, then a, b, d, c", x, 0, 7);
        due("now", 12, x.count(1));
        due("hood of b", 5, x.of(1, 0));
        due("hood of a", 4, x.of(0, 0));
        due("hood of d", 0, x.of(3, 0));
        due("street of c", 7, x.of(2, 1));
        due("as one", 1, x.count(7));
        due("undone", 0, x.undo());
        due("hood of b", 0, x.of(1, 0));
        due("street of c", 1, x.of(2, 1));
        due("till one can't be", 1, seasonText(x, "ha3;he3;hb3"));
        dueRow("one could not be", x, 1, 0);
        due("the first was done", 3, x.of(0, 0));
        due("the last was not", 0, x.of(1, 0));
        due("it can be undone", 1, x.count(7));
        due("like ones", 0, seasonText(x, "saa;d"));
        dueRow("like ones", x, 1, 0);
        due("not there", 0, seasonText(x, "sae"));
        due("not there", 0, seasonText(x, "sea"));
        due("not there", 0, seasonText(x, "mi1"));
        due("no act done can't be undone", 1, x.count(7));
        due("no day went by", 0, x.count(1));
        due("the text is empty", 0, x.count(9));
        due("60 signs", 30, seasonText(x, times(29, "d;") + "d1"));
        due("now", 30, x.count(1));
    }

    private static void seasonFaults() {
        NinthDayHooded x = townOf(FOUR);
        x.day();
        String[] bad = {"x", "sa", "h", "ha", "haa", "hj0", "d0", "d1b", "d;", "ha9", "m", "ma9", "mk1", "s", "saj", "saaa", "ha00", ";d", "d;;d",
            "d11", "ha1d", "d ", "s1a", "d1;hb"};
        int[] at = {0, 2, 1, 2, 2, 1, 1, 2, 2, 2, 1, 2, 1, 1, 2, 3, 3, 0, 2,
            2, 3, 1, 1, 5};
        for (int i = 0; i < bad.length; i++) {
            due("season " + bad[i], -1 - at[i], seasonText(x, bad[i]));
            due("a refused season empties the text", 0, x.count(9));
            due("nothing is done", 1, x.count(1));
            due("nothing more to undo", 1, x.count(7));
        }
        due("61 signs", -1 - 60, seasonText(x, times(30, "d;") + "d"));
        due("61 signs that end early", -1 - 60, seasonText(x, times(30, "d;") + "h"));
        due("60 signs that end early", -1 - 60, seasonText(x, times(30, "d;")));
        due("a fault ahead of 60", -1 - 59, seasonText(x, times(29, "d;") + "d0d"));
        dueRow("a refused season leaves the row", x, 9 + 8, 0);
        due("nothing is done", 1, x.count(1));
        String[] ahead = {"", "d", "d5", "h", "ha", "ha0", "s", "sa", "sab", "m", "mb", "d;"};
        String[] good = {"dhsm", "123456789;", ";", "abcdefghi", "012345678", ";", "abcdefghi", "abcdefghi", ";", "abcdefghi", "012345678",
            "dhsm"};
        for (int i = 0; i < ahead.length; i++) {
            for (int c = 0; c < 256; c++) {
                int got = seasonText(new NinthDayHooded(), ahead[i] + (char) c);
                due("season " + ahead[i] + " and sign " + c, good[i].indexOf(c) >= 0, got != -1 - ahead[i].length());
            }
        }
    }

    private static void undo() {
        NinthDayHooded x = townOf("00;10p;20;30");
        due("none", NONE, x.undo());
        for (int i = 0; i < 13; i++) {
            x.day();
        }
        due("12 are kept", 12, x.count(7));
        for (int left = 11; left >= 0; left--) {
            due("left", left, x.undo());
            due("now", left + 1, x.count(1));
        }
        due("none", NONE, x.undo());
        due("now", 1, x.count(1));
        due("the lesson of day 0 stays", 1, x.lessons(0, 0));
        due("the book too", 1, x.led(0, 1));
        x.days(20);
        x.set(0, 1, 8);
        x.set(0, 2, 2);
        trustText(x, 0, "0000");
        due("what was set is undone too", 0, x.undo());
        due("street", 0, x.of(0, 1));
        due("trades", 0, x.of(0, 2));
        due("lessons", 1, x.lessons(0, 0));
        due("book", 1, x.count(6));
        due("trust stays", 0, x.trusts(0, 1));
        x.swap(0, 1);
        likesText(x, 0, "900000000");
        likesText(x, 1, "090000000");
        x.turn();
        x.task(0, 1);
        x.set(1, 0, 0);
        x.set(2, 2, 1);
        x.set(2, 0, 0);
        due("mend", 1, x.mend());
        due("mend with nothing to do", 0, x.mend());
        seasonText(x, "d2;d2");
        x.days(3);
        x.days(0);
        due("what can be undone", 5, x.count(7));
        due("days", 4, x.undo());
        due("now", 5, x.count(1));
        due("season", 3, x.undo());
        due("now", 1, x.count(1));
        due("mend", 2, x.undo());
        due("hood", 0, x.of(1, 0));
        due("turn", 1, x.undo());
        due("hood", 1, x.of(0, 0));
        due("swap", 0, x.undo());
        due("hood", 0, x.of(0, 0));
        x.day();
        due("a refused town", -1, type(x, "x").town());
        due("does not forget", 1, x.count(7));
        x.town();
        due("nor an empty one", 1, x.count(7));
        due("nor a refused again", false, x.again(0));
        due("does not forget", 1, x.count(7));
        type(x, "00").town();
        due("a town forgets", 0, x.count(7));
        x.day();
        x.keep(0);
        due("keep does not", 1, x.count(7));
        x.again(0);
        due("again does", 0, x.count(7));
        x.day();
        x.comes(1);
        due("comes does", NONE, x.undo());
    }

    private static void led() {
        NinthDayHooded x = townOf("00;00;00;10");
        x.days(2);
        due("d led a", 3, x.led(0, 2));
        due("nobody led c", -3, x.led(2, 2));
        due("d was not hooded", -2, x.led(3, 2));
        due("a led d", 0, x.led(3, 1));
        due("a was not hooded", -2, x.led(0, 1));
        due("the book has not so many", -4, x.led(0, 3));
        type(x, "20").town();
        due("it came since", -4, x.led(4, 1));
        x.day();
        due("the day behind its coming", 0, x.led(4, 1));
        due("it came since", -4, x.led(4, 2));
        due("others are known", 0, x.led(3, 2));
        x.days(27);
        due("30 days ago", 3, x.led(0, 30));
        NinthDayHooded nine = townOf("00;10;20;30;40;50;60;70;80");
        ruleText(nine, "9-j");
        nine.days(9);
        due("i led a", 8, nine.led(0, 9));
        due("h led i", 7, nine.led(8, 1));
        due("i was not hooded", -2, nine.led(8, 2));
        due("h was", 8, nine.led(7, 2));
        x.day();
        due("it is out of the book", -2, x.led(0, 30));
        due("k 0", NONE, x.led(0, 0));
        due("k 31", NONE, x.led(0, 31));
        due("none such", NONE, x.led(5, 1));
        due("none such", NONE, x.led(-1, 1));
        x.undo();
        due("undone", 3, x.led(0, 30));
    }

    private static void leads() {
        NinthDayHooded x = townOf("00;10;20;30");
        ruleText(x, "j");
        x.days(4);
        due("a leads b, c, d", 3, x.leads(0));
        dueRow("of equal ones the first", x, 14, 1);
        due("b leads a", 1, x.leads(1));
        dueRow("b leads a", x, 1, 0);
        due("d leads nobody", 0, x.leads(3));
        dueRow("d leads nobody", x, 0, -1);
        x.set(2, 0, 4);
        x.day();
        x.leads(0);
        dueRow("the most often", x, 14, 2);
        x.set(1, 0, 5);
        x.set(2, 0, 5);
        x.set(3, 0, 5);
        x.days(20);
        due("two of three on days 5, 14, 23", 4 + 3 * 2, x.leads(0));
        dueRow("c five times, b four times", x, 14, 2);
        x.days(40);
        due("only the last 30 days", 3 * 2, x.leads(0));
        dueRow("d is led by nobody", x, 6, 1);
        due("none such", NONE, x.leads(4));
        due("none such", NONE, x.leads(-1));
    }

    private static void ahead() {
        NinthDayHooded x = townOf("00;10p;20");
        ruleText(x, "1+j");
        due("no days", 0, x.ahead(0));
        dueRow("no days", x, 0, 0, 0, 0, 0);
        due("19 days", 7, x.ahead(19));
        dueRow("19 days", x, 4, 3, 0, 2 + 1 + 1 + 2 + 1 + 1 + 2, 1);
        due("40 days", 15, x.ahead(40));
        due("a day", 1, x.ahead(1));
        dueRow("a day", x, 0, 1, 0, 2, 0);
        NinthDayHooded nine = townOf("00;10;20;30;40;50;60;70;80");
        ruleText(nine, "9-j");
        due("nine of them", 9, nine.ahead(9));
        dueRow("nine of them", nine, 0, 0, 0, 0, 0, 0, 0, 1, 8, 8 * 1 + 2, 0);
        due("nothing changes", 0, x.count(1));
        due("no lesson", 0, x.lessons(0, 0));
        due("nothing to undo", 0, x.count(7));
        due("no book", 0, x.count(6));
        due("41", NONE, x.ahead(41));
        due("-1", NONE, x.ahead(-1));
    }

    private static void learns() {
        NinthDayHooded x = townOf("00;10pq;20");
        ruleText(x, "1");
        due("the third day 0", 19, x.learns(0, 0));
        dueRow("three lessons", x, 3);
        due("the second trade is too far", -2, x.learns(0, 1));
        dueRow("lessons behind 40 days", x, 2);
        due("it has it", 0, x.learns(1, 0));
        dueRow("it has it", x, 0);
        due("from a, who learns it first, on days 20, 29, 38", 39, x.learns(2, 0));
        dueRow("three lessons", x, 3);
        due("nothing changes", 0, x.count(1));
        x.days(19);
        due("it has it now", 0, x.learns(0, 0));
        dueRow("with three lessons", x, 3);
        due("none such", NONE, x.learns(3, 0));
        due("none such", NONE, x.learns(-1, 0));
        due("trade 6", NONE, x.learns(0, 6));
        due("trade -1", NONE, x.learns(0, -1));
        NinthDayHooded y = townOf("40;10p");
        y.days(1);
        due("days 4, 13, 22 from day 1 on", 22, y.learns(0, 0));
        NinthDayHooded far = townOf("30;10p;20");
        far.days(22);
        due("the third lesson is told", 0, far.learns(0, 0));
        far.set(0, 2, 0);
        due("the next one gives it back", 9, far.learns(0, 0));
        dueRow("it is the fourth", far, 4);
        NinthDayHooded forty = townOf("30;10pq");
        forty.days(9);
        due("p has one lesson: q on days 30, 39, 48 from day 9 on", 40, forty.learns(0, 1));
        dueRow("the last of forty days", forty, 3);
        forty.set(0, 0, 4);
        due("a day too late", -2, forty.learns(0, 1));
        dueRow("a day too late", forty, 2);
        y.days(4);
        due("days 13, 22 from day 5 on", 18, y.learns(0, 0));
        dueRow("three lessons", y, 3);
    }

    // ---- tasks

    private static void task() {
        NinthDayHooded x = townOf(FOUR);
        due("trade 6", NONE, x.task(6, 1));
        due("trade -1", NONE, x.task(-1, 1));
        due("need 0", NONE, x.task(0, 0));
        due("need 4", NONE, x.task(0, 4));
        for (int i = 0; i < 6; i++) {
            due("task", i, x.task(i, 1 + i % 3));
        }
        due("a seventh", -2, x.task(0, 1));
        due("six", 6, x.count(3));
    }

    private static void done() {
        NinthDayHooded x = townOf(FOUR);
        due("none", NONE, x.done());
        x.task(0, 1);
        x.task(5, 3);
        due("the latest", 1, x.done());
        due("what is left is trade 0", 0, x.manned(8));
        due("the last", 0, x.done());
        due("none", NONE, x.done());
    }

    private static void manned() {
        NinthDayHooded x = townOf(FOUR);
        due("no tasks", 0, x.manned(0));
        dueRow("two see", x, 2);
        x.task(0, 2);
        x.task(2, 1);
        due("day 0", 1, x.manned(0));
        due("day 1", 1, x.manned(1));
        dueRow("three see", x, 3);
        due("day 4", 1, x.manned(4));
        due("day 8", 0, x.manned(8));
        dueRow("all see", x, 4);
        x.task(1, 3);
        due("nobody for two", 3, x.manned(8));
        due("9", NONE, x.manned(9));
        due("-1", NONE, x.manned(-1));
        dueRow("a refused call leaves the row", x, 4);
        NinthDayHooded y = townOf("00pq;00p;00qr");
        y.task(0, 1);
        y.task(1, 1);
        y.task(2, 1);
        due("each has one that suits", 0, y.manned(1));
        due("none sees", 3, y.manned(0));
        dueRow("none sees", y, 0);
        y.task(0, 1);
        due("two tasks of one trade", 1, y.manned(1));
        y.set(2, 2, 0);
        due("c has no trade any more", 2, y.manned(1));
        y.done();
        y.done();
        due("r is no task any more", 0, y.manned(1));
    }

    private static void bare() {
        NinthDayHooded x = townOf(FOUR);
        due("no tasks", 0, x.bare());
        dueRow("no tasks", x, 0);
        x.task(0, 2);
        x.task(2, 1);
        due("0, 1 and 4", 1 + 2 + 16, x.bare());
        dueRow("one on each", x, 3);
        x.task(5, 3);
        due("all", 511, x.bare());
        dueRow("more", x, 3 + 27);
    }

    private static void blindest() {
        NinthDayHooded x = new NinthDayHooded();
        due("nobody", 0, x.blindest());
        dueRow("nobody", x, 0);
        type(x, "80;30;30;80").town();
        due("of equal ones the first", 3, x.blindest());
        dueRow("two", x, 2);
        type(x, "80").town();
        due("the most", 8, x.blindest());
        dueRow("three", x, 3);
    }

    private static void mends() {
        NinthDayHooded x = townOf("00p;00p;10;20q;20q");
        due("no tasks", 0, x.mends());
        dueRow("nobody", x);
        x.task(0, 1);
        due("one", 1, x.mends());
        dueRow("the least person, the least hood", x, 0, 1);
        x.task(1, 1);
        due("two", 2, x.mends());
        dueRow("the least row", x, 0, 1, 3, 0);
        due("nothing changes", 0, x.of(0, 0));
        x.task(0, 1);
        due("never two of p on day 0", -2, x.mends());
        dueRow("-2 tells no row", x, 0, 1, 3, 0);
        NinthDayHooded three = townOf("00p;00p;10q;10q;20r;20r");
        three.task(0, 1);
        three.task(1, 1);
        three.task(2, 1);
        due("three would do it", -2, three.mends());
        NinthDayHooded y = townOf("00p;00p;10p;00p");
        y.task(0, 2);
        due("one of three", 1, y.mends());
        dueRow("not to day 1, where c is", y, 0, 1);
        y.task(0, 1);
        due("three of four must see", 2, y.mends());
        dueRow("a to 2, b to 3: each alone", y, 0, 2, 1, 3);
    }

    private static void mend() {
        NinthDayHooded x = townOf("00p;00p;10;20q;20q");
        due("no tasks", 0, x.mend());
        dueRow("nobody", x);
        x.task(0, 1);
        x.task(1, 1);
        due("two", 2, x.mend());
        dueRow("as mends", x, 0, 1, 3, 0);
        due("a has 1", 1, x.of(0, 0));
        due("d has 0", 0, x.of(3, 0));
        due("e has 2", 2, x.of(4, 0));
        due("all are manned", 0, x.bare());
        due("one to undo", 1, x.count(7));
        due("nothing more", 0, x.mend());
        due("nothing more to undo", 1, x.count(7));
        due("undo", 0, x.undo());
        due("a has 0", 0, x.of(0, 0));
        x.task(5, 3);
        due("-2", -2, x.mend());
        due("nothing to undo", 0, x.count(7));
    }

    private static void newcomer() {
        NinthDayHooded x = townOf(FOUR);
        due("no tasks", 0, x.newcomer(63));
        dueRow("no tasks", x, 0);
        x.task(0, 2);
        x.task(2, 1);
        due("p and r: not on 0, 1, 4", 2, x.newcomer(5));
        dueRow("nothing is wanting", x, 0);
        x.task(0, 1);
        due("p is wanting on all days", 0, x.newcomer(1));
        dueRow("it is one hand: still p on days 0 and 4, p or r on day 1", x, 2 + 1 + 1);
        x.done();
        due("r: not on 1", 0, x.newcomer(4));
        dueRow("r helps on day 1", x, 2);
        due("p: not on 0", 1, x.newcomer(1));
        dueRow("p helps on 0 and 4", x, 1);
        due("nothing", 0, x.newcomer(0));
        dueRow("nothing helps", x, 3);
        due("64", NONE, x.newcomer(64));
        due("-1", NONE, x.newcomer(-1));
        due("nobody comes", 4, x.count(0));
        type(x, "00;00;00;00;00").town();
        due("also if nine are there", 2, x.newcomer(5));
        dueRow("also if nine are there", x, 0);
    }

    private static void needed() {
        NinthDayHooded x = townOf(FOUR);
        due("no tasks", 0, x.needed());
        x.task(0, 2);
        x.task(2, 1);
        x.met();
        due("a, c and d", 1 + 4 + 8, x.needed());
        dueRow("no row is told", x, 0);
        x.set(1, 2, 4);
        due("c still, on day 0, and b on day 1", 1 + 2 + 4 + 8, x.needed());
        x.set(1, 0, 1);
        x.set(1, 2, 4);
        due("b and c are alike", 1 + 8, x.needed());
    }

    private static void gain() {
        NinthDayHooded x = townOf("00p;00p;10q;20");
        x.task(0, 1);
        due("a with d", 1, x.gain(0, 3));
        due("d with a", 1, x.gain(3, 0));
        due("like hoods", 0, x.gain(0, 1));
        x.swap(0, 3);
        due("back", -1, x.gain(0, 3));
        due("nothing changes", 2, x.of(0, 0));
        dueThrow("gain(0, 0)", () -> x.gain(0, 0));
        dueThrow("gain(4, 0)", () -> x.gain(4, 0));
        dueThrow("gain(0, 4)", () -> x.gain(0, 4));
        dueThrow("gain(-1, 0)", () -> x.gain(-1, 0));
        dueThrow("gain(0, -1)", () -> x.gain(0, -1));
    }

    private static void ferry() {
        NinthDayHooded x = townOf("00;01;11;48");
        due("streets 0 and 1, one", 511, x.ferry(0, 1, 1));
        due("two", 511 - 1, x.ferry(0, 1, 2));
        due("three", 511 - 3, x.ferry(0, 1, 3));
        due("streets 0 and 8", 511 - 1 - 16, x.ferry(0, 8, 2));
        due("one street", 511 - 1, x.ferry(0, 0, 1));
        due("one street counts once", 0, x.ferry(0, 0, 2));
        due("an empty one", 0, x.ferry(5, 5, 1));
        due("n 0", NONE, x.ferry(0, 1, 0));
        due("n 4", NONE, x.ferry(0, 1, 4));
        due("street 9", NONE, x.ferry(9, 1, 1));
        due("street 9", NONE, x.ferry(1, 9, 1));
        due("street -1", NONE, x.ferry(-1, 1, 1));
        due("street -1", NONE, x.ferry(1, -1, 1));
    }

    // ---- wishes, rings

    private static void wish() {
        NinthDayHooded x = townOf(FOUR);
        due("like ones", NONE, x.wish(0, 0, 1));
        due("2", NONE, x.wish(0, 1, 2));
        due("-1", NONE, x.wish(0, 1, -1));
        due("none such", NONE, x.wish(4, 0, 1));
        due("none such", NONE, x.wish(0, -1, 1));
        for (int i = 1; i <= 12; i++) {
            due("wish", i, x.wish(0, 1 + i % 3, i % 2));
        }
        due("a thirteenth", -2, x.wish(0, 1, 0));
        due("twelve", 12, x.count(4));
    }

    private static void forget() {
        NinthDayHooded x = townOf(FOUR);
        due("none", 0, x.forget());
        x.wish(0, 1, 1);
        x.wish(0, 2, 1);
        due("two", 2, x.forget());
        due("none are left", 0, x.count(4));
        due("none", 0, x.forget());
    }

    private static void met() {
        NinthDayHooded x = townOf(FOUR);
        due("none", 0, x.met());
        dueRow("none", x, 0);
        x.wish(0, 1, 1);
        x.wish(0, 1, 0);
        x.wish(2, 3, 1);
        x.wish(3, 2, 0);
        due("two", 2, x.met());
        dueRow("the first and the last", x, 1 + 8);
    }

    private static void please() {
        NinthDayHooded x = townOf(FOUR);
        due("no wishes", NONE, x.please());
        dueRow("no wishes", x, -1, 0);
        x.wish(0, 1, 0);
        due("the least number, the least hood", 0, x.please());
        dueRow("a to day 1", x, 1, 1);
        x.wish(0, 2, 0);
        due("a to day 2", 0, x.please());
        dueRow("a to day 2", x, 2, 2);
        x.wish(1, 3, 1);
        due("b to d", 1, x.please());
        dueRow("b to d", x, 4, 3);
        due("nothing changes", 0, x.of(1, 0));
        NinthDayHooded first = townOf("50;60;00");
        first.wish(0, 1, 1);
        first.wish(1, 2, 1);
        due("b to day 0 and 5 are as good, a to 6 is ahead", 0, first.please());
        dueRow("a to day 6", first, 6, 1);
        first.wish(0, 2, 1);
        due("a to day 0", 0, first.please());
        dueRow("the least hood of as many", first, 0, 1);
        NinthDayHooded y = townOf("00p;10p;20");
        y.task(0, 1);
        y.wish(0, 1, 1);
        due("days would be less manned", NONE, y.please());
        dueRow("days would be less manned", y, -1, 0);
        y.set(2, 2, 1);
        due("c mans them", 0, y.please());
        dueRow("a to day 1", y, 1, 1);
        y.wish(0, 2, 1);
        due("one of two wishes", 0, y.please());
        dueRow("the least hood", y, 1, 1);
        NinthDayHooded z = townOf("00p;00p;10");
        z.task(0, 2);
        z.wish(0, 1, 0);
        due("as much wanting", 0, z.please());
        dueRow("two days want one instead of one day two", z, 1, 1);
        z.wish(1, 2, 1);
        due("b to day 1 is more", 1, z.please());
        dueRow("b to day 1 is more", z, 1, 2);
        NinthDayHooded w = townOf("00p;10p;20;30");
        w.task(0, 1);
        w.wish(0, 1, 1);
        w.wish(2, 3, 1);
        due("a and b must not, c and d may", 2, w.please());
        dueRow("c to day 3", w, 3, 1);
    }

    private static void colours() {
        NinthDayHooded none = new NinthDayHooded();
        due("nobody", 0, none.colours());
        dueRow("nobody", none);
        NinthDayHooded x = townOf("00;10;20;30;40");
        due("no wishes", 1, x.colours());
        dueRow("no wishes", x, 0, 0, 0, 0, 0);
        x.wish(0, 1, 0);
        x.wish(1, 2, 0);
        x.wish(4, 1, 1);
        due("two", 2, x.colours());
        dueRow("two", x, 0, 1, 0, 0, 1);
        x.wish(2, 0, 0);
        due("three", 3, x.colours());
        dueRow("three", x, 0, 1, 2, 0, 1);
        x.wish(3, 0, 1);
        x.wish(3, 2, 1);
        due("can't be met", -2, x.colours());
        dueRow("-2 tells no row", x, 0, 1, 2, 0, 1);
        x.forget();
        for (int a = 0; a < 5; a++) {
            for (int b = 0; b < a; b++) {
                x.wish(a, b, 0);
            }
        }
        due("five", 5, x.colours());
        dueRow("five", x, 0, 1, 2, 3, 4);
        x.wish(0, 1, 1);
        due("one pair both ways", -2, x.colours());
        x.forget();
        x.wish(0, 1, 1);
        x.wish(1, 2, 1);
        x.wish(2, 0, 0);
        due("not by a third one", -2, x.colours());
        x.forget();
        x.wish(0, 1, 0);
        x.wish(1, 2, 1);
        x.wish(2, 0, 1);
        due("nor if the first wishes two", -2, x.colours());
        due("hoods stay", 4, x.of(4, 0));
        NinthDayHooded nine = townOf("00;10;20;30;40;50;60;70;80");
        nine.wish(0, 8, 0);
        due("nine people", 2, nine.colours());
        dueRow("nine people", nine, 0, 0, 0, 0, 0, 0, 0, 0, 1);
        NinthDayHooded crown = townOf("00;00;00;00;00;00");
        crown.wish(0, 3, 0);
        crown.wish(0, 5, 0);
        crown.wish(2, 1, 0);
        crown.wish(2, 5, 0);
        crown.wish(4, 1, 0);
        crown.wish(4, 3, 0);
        due("two are enough", 2, crown.colours());
        dueRow("though the first free hood would need three", crown, 0, 1, 0, 1, 0, 1);
    }

    private static void friend() {
        NinthDayHooded x = townOf("00;10;20");
        trustText(x, 0, "000");
        due("the first of equal ones", 1, x.friend(0));
        dueRow("nobody is alone", x, 0, 0 + 8 + 8);
        due("trust stays", 0, x.trusts(0, 1));
        due("another one's trust", 0, x.friend(1));
        dueRow("a is alone", x, 1, 0 + 8);
        trustText(x, 0, "099");
        due("of as good ones nobody", NONE, x.friend(0));
        dueRow("of as good ones nobody", x, 0, 0 + 8 + 8);
        trustText(x, 0, "011");
        ruleText(x, "20-u");
        due("trust as a guide", 1, x.friend(0));
        dueRow("it is less", x, 0, 19 + 11 + 19);
        due("none such", -2, x.friend(3));
        due("none such", -2, x.friend(-1));
        NinthDayHooded y = townOf("00;10p;20");
        ruleText(y, "k*d+d");
        y.days(4);
        due("no change is as good", NONE, y.friend(2));
        dueRow("days 4 to 12", y, 0, 0 + 1 + 2);
    }

    private static void swap() {
        NinthDayHooded x = townOf(FOUR);
        due("swap", true, x.swap(0, 3));
        due("a has 4", 4, x.of(0, 0));
        due("d has 0", 0, x.of(3, 0));
        due("street stays", 0, x.of(0, 1));
        due("like ones", false, x.swap(1, 1));
        due("none such", false, x.swap(4, 1));
        due("none such", false, x.swap(1, 4));
        due("none such", false, x.swap(-1, 1));
        due("one to undo", 1, x.count(7));
        due("like hoods", true, x.swap(1, 3));
        due("two to undo", 2, x.count(7));
    }

    private static NinthDayHooded fiveLiking(String... likes) {
        NinthDayHooded x = townOf("00;10;20;30;40");
        for (int p = 0; p < likes.length; p++) {
            likesText(x, p, likes[p]);
        }
        return x;
    }

    private static void ring() {
        NinthDayHooded x = townOf("00;10;20;30;40");
        due("none", -2, x.ring());
        x.blindest();
        due("none", -2, x.ring());
        dueRow("-2 tells no row", x, 1);
        NinthDayHooded two = fiveLiking("010000000", "001000000", "100000000", "000010000", "000100000");
        two.guides(0);
        due("two are shorter", 2, two.ring());
        dueRow("d and e", two, 3, 4);
        NinthDayHooded three = fiveLiking("011000000", "001000000", "100100000", "100010000", "100000000");
        due("a and c", 2, three.ring());
        dueRow("a and c", three, 0, 2);
        NinthDayHooded round = fiveLiking("001000000", "100000000", "010000000");
        due("three", 3, round.ring());
        dueRow("each gets the next one's", round, 0, 2, 1);
        NinthDayHooded four = fiveLiking("000000000", "001000000", "000100000", "000010000", "010000000");
        due("four", 4, four.ring());
        dueRow("begun with the least", four, 1, 2, 3, 4);
        NinthDayHooded five = fiveLiking("010000000", "001000000", "000100000", "000010000", "100000000");
        due("five are too many", -2, five.ring());
        NinthDayHooded same = fiveLiking("110000000", "100000000");
        due("it must like it more", -2, same.ring());
        NinthDayHooded least = fiveLiking("001100000", "000000000", "100000000", "100000000");
        due("of as short ones", 2, least.ring());
        dueRow("the least row", least, 0, 2);
        due("nothing changes", 0, least.of(0, 0));
    }

    private static void turn() {
        NinthDayHooded x = fiveLiking("001000000", "100000000", "010000000");
        due("three", 3, x.turn());
        dueRow("they", x, 0, 2, 1);
        due("a has c's", 2, x.of(0, 0));
        due("b has a's", 0, x.of(1, 0));
        due("c has b's", 1, x.of(2, 0));
        due("none is left", -2, x.turn());
        dueRow("-2 tells no row", x, 0, 2, 1);
        due("one to undo", 1, x.count(7));
        due("undo", 0, x.undo());
        due("a has its own", 0, x.of(0, 0));
    }

    private static void rests() {
        NinthDayHooded x = fiveLiking("012000000", "100200000", "200000000", "020000000");
        due("a with b first", 2, x.ring());
        dueRow("a with b first", x, 0, 1);
        due("two rings", 2, x.rests());
        // a with b: b has 0, which it likes 1; a has 1, d likes 1 best and a likes 3 not.
        dueRow("hoods then", x, 2, 3, 0, 1, 4);
        due("nothing changes", 0, x.of(0, 0));
        due("nothing to undo", 0, x.count(7));
        NinthDayHooded none = townOf("30;10");
        due("no ring", 0, none.rests());
        dueRow("hoods as they are", none, 3, 1);
    }

    private static void liked() {
        NinthDayHooded x = fiveLiking("912000000", "912000000", "912000000");
        due("now", 9 + 1 + 2, x.liked());
        dueRow("the most", x, 12);
        likesText(x, 1, "000090000");
        due("b likes 4", 9 + 0 + 2, x.liked());
        dueRow("the most", x, 9 + 9 + 2);
        likesText(x, 1, "000009000");
        dueRow("5 is nobody's", x, 20);
        x.liked();
        dueRow("5 is nobody's", x, 9 + 2);
        x.set(2, 0, 0);
        x.liked();
        dueRow("two have 0", x, 9 + 9);
        NinthDayHooded none = new NinthDayHooded();
        due("nobody", 0, none.liked());
        dueRow("nobody", none, 0);
    }

    // ---- thefts, witnesses

    private static void theft() {
        NinthDayHooded x = townOf(FOUR);
        due("none such", NONE, x.theft(4, 0));
        due("none such", NONE, x.theft(-1, 0));
        due("day 1000", NONE, x.theft(0, 1000));
        due("day -1", NONE, x.theft(0, -1));
        for (int i = 1; i <= 10; i++) {
            due("theft", i, x.theft(i % 4, i == 1 ? 999 : i - 2));
        }
        due("an eleventh", NONE, x.theft(0, 0));
        due("ten", 10, x.count(5));
    }

    private static void pardon() {
        NinthDayHooded x = townOf(FOUR);
        due("none", 0, x.pardon());
        x.theft(0, 0);
        x.theft(1, 0);
        due("two", 2, x.pardon());
        due("none are left", 0, x.count(5));
        due("none such", NONE, x.suspects(0));
    }

    private static void suspects() {
        NinthDayHooded x = townOf("00;12;13;48;47");
        trustText(x, 0, "00010");
        x.theft(0, 1);
        due("d and e", 2, x.suspects(0));
        dueRow("b is hooded, c lives too far", x, 8 + 16);
        x.theft(0, 9);
        due("a is hooded and trusts d", 1, x.suspects(1));
        dueRow("a is hooded and trusts d", x, 8);
        x.theft(4, 5);
        due("a, d, not itself", 2, x.suspects(2));
        dueRow("a, d", x, 1 + 8);
        x.set(3, 1, 4);
        due("it moved", 1, x.suspects(2));
        dueRow("a alone", x, 1);
        trustText(x, 4, "01111");
        due("e is not hooded: trust does not matter", 1, x.suspects(2));
        x.set(4, 0, 5);
        due("e is hooded and does not trust a", 0, x.suspects(2));
        dueRow("nobody", x, 0);
        x.set(4, 0, 4);
        x.suspects(2);
        due("3", NONE, x.suspects(3));
        due("-1", NONE, x.suspects(-1));
        dueRow("a refused call leaves the row", x, 1);
    }

    private static void thief() {
        NinthDayHooded x = townOf("00;10;20;34;44");
        due("no thefts: all", 31, x.thief());
        dueRow("no thefts: nobody is needed", x, 0, 0);
        x.theft(0, 1);
        due("c", 4, x.thief());
        dueRow("c", x, 1, 4);
        x.theft(1, 5);
        due("c", 4, x.thief());
        dueRow("c", x, 1, 4);
        x.theft(3, 5);
        due("nobody alone", 0, x.thief());
        dueRow("c and e", x, 2, 4 + 16);
        x.theft(4, 12);
        due("d is hooded then", 0, x.thief());
        dueRow("some theft has none", x, -1, 0);
        NinthDayHooded each = townOf("00;10");
        each.theft(0, 5);
        each.theft(1, 5);
        due("each robbed the other", 0, each.thief());
        dueRow("both", each, 2, 3);
        NinthDayHooded nine = townOf("00;10;20;30;40;50;60;70;80");
        for (int p = 0; p < 9; p++) {
            StringBuilder next = new StringBuilder("000000000");
            next.setCharAt((p + 1) % 9, '1');
            trustText(nine, p, next.toString());
            nine.theft(p, 9 + p);
        }
        due("each was robbed by the next, hooded", 0, nine.thief());
        dueRow("all nine", nine, 9, 511);
        NinthDayHooded y = townOf("00;10;20;30");
        y.theft(0, 5);
        due("b, c, d", 14, y.thief());
        dueRow("of as few the least", y, 1, 2);
        y.theft(1, 2);
        due("d", 8, y.thief());
        dueRow("d alone", y, 1, 8);
        y.theft(3, 0);
        due("nobody alone", 0, y.thief());
        dueRow("b and ... of as few the least", y, 2, 3);
    }

    private static void witness() {
        NinthDayHooded x = townOf("00;11;18;12;07");
        due("street 0 in day 0", 1 + 2 + 2, x.witness(0, 0));
        dueRow("b and c see, a is hooded", x, 2 + 4, 1);
        due("in day 1", 2 + 1 + 1, x.witness(0, 1));
        dueRow("a sees", x, 1, 2 + 4);
        due("in day 999", 5, x.witness(0, 999));
        due("street 8", 1 + 2 + 1, x.witness(8, 0));
        due("street 4", 0, x.witness(4, 0));
        dueRow("nobody", x, 0, 0);
        due("street 9", NONE, x.witness(9, 0));
        due("street -1", NONE, x.witness(-1, 0));
        due("day 1000", NONE, x.witness(0, 1000));
        due("day -1", NONE, x.witness(0, -1));
        dueRow("a refused call leaves the row", x, 0, 0);
    }

    private static void dark() {
        NinthDayHooded x = townOf("00;11;18;12;07");
        due("6 is all", 0, x.dark(0, 6, 1));
        due("5 in day 0", 0, x.dark(0, 5, 1));
        due("4 in day 1", 1, x.dark(0, 4, 2));
        due("4 in one day", -2, x.dark(0, 4, 1));
        due("3 never", -2, x.dark(0, 3, 40));
        x.days(2);
        due("in 7 days", 7, x.dark(0, 5, 40));
        due("in 8 days", 8, x.dark(0, 4, 9));
        due("too few days", -2, x.dark(0, 4, 8));
        due("0 where nobody lives", 0, x.dark(4, 0, 1));
        x.witness(0, 0);
        due("20", 0, x.dark(4, 20, 40));
        dueRow("no row is told", x, 2 + 4, 1);
        due("v 21", NONE, x.dark(0, 21, 1));
        due("v -1", NONE, x.dark(0, -1, 1));
        due("n 0", NONE, x.dark(0, 5, 0));
        due("n 41", NONE, x.dark(0, 5, 41));
        due("street 9", NONE, x.dark(9, 5, 1));
        due("street -1", NONE, x.dark(-1, 5, 1));
    }

    // ---- seeds

    private static void comes() {
        NinthDayHooded x = new NinthDayHooded();
        // 12345 without sign, by 65536: 0; 12345 * 1103515245 + 12345 is 0xD3DC167E as an int: 54236.
        due("seed 0", 0, x.comes(0));
        due("hood", 0, x.of(0, 0));
        due("street", 54236 % 9, x.of(0, 1));
        due("trades", third(0) % 64, x.of(0, 2));
        due("likes", 0, x.of(0, 3));
        int[] seeds = {1, -1, Integer.MIN_VALUE, Integer.MAX_VALUE, 123456789, 7, 8, 99};
        for (int i = 0; i < seeds.length; i++) {
            due("comes", i + 1, x.comes(seeds[i]));
            due("hood of seed " + seeds[i], (int) (after(seeds[i], 1) / 65536 % 9), x.of(i + 1, 0));
            due("street of seed " + seeds[i], (int) (after(seeds[i], 2) / 65536 % 9), x.of(i + 1, 1));
            due("trades of seed " + seeds[i], third(seeds[i]) % 64, x.of(i + 1, 2));
            due("trust", 1, x.trusts(i + 1, 0));
            due("trusted", 1, x.trusts(0, i + 1));
        }
        due("a tenth", NONE, x.comes(5));
        due("nine", 9, x.count(0));
    }

    /** R behind so many draws, without its sign. */
    private static long after(int seed, int draws) {
        long r = seed & 0xFFFFFFFFL;
        for (int i = 0; i < draws; i++) {
            r = (r * 1103515245L + 12345L) % 4294967296L;
            r = r < 0 ? r + 4294967296L : r;
        }
        return r;
    }

    private static int third(int seed) {
        return (int) (after(seed, 3) / 65536);
    }

    // ---- kept

    private static void keep() {
        NinthDayHooded x = townOf(FOUR);
        due("keep(0)", true, x.keep(0));
        due("keep(1)", true, x.keep(1));
        due("keep(2)", false, x.keep(2));
        due("keep(-1)", false, x.keep(-1));
        x.day();
        x.keep(1);
        x.days(5);
        due("again(1)", true, x.again(1));
        due("day 1", 1, x.count(1));
        due("again(0)", true, x.again(0));
        due("day 0", 0, x.count(1));
        due("again(1) again", true, x.again(1));
        due("day 1", 1, x.count(1));
    }

    private static void again() {
        NinthDayHooded x = townOf("00;10p;20");
        due("nothing kept", false, x.again(0));
        x.days(10);
        x.keep(0);
        due("the other number", false, x.again(1));
        due("-1", false, x.again(-1));
        due("2", false, x.again(2));
        x.set(0, 0, 8);
        x.set(0, 1, 7);
        x.days(27);
        due("it has learnt", 1, x.of(0, 2));
        due("again", true, x.again(0));
        due("hood", 0, x.of(0, 0));
        due("street", 0, x.of(0, 1));
        due("trades", 0, x.of(0, 2));
        due("lessons", 2, x.lessons(0, 0));
        due("now", 10, x.count(1));
        due("book", 10, x.count(6));
        due("who led", 1, x.led(0, 1));
        due("nothing can be undone", NONE, x.undo());
        x.day();
        x.comes(3);
        due("people came since", false, x.again(0));
        due("nothing changes", 11, x.count(1));
        x.keep(0);
        due("kept anew", true, x.again(0));
    }

    private static void count() {
        NinthDayHooded x = townOf(FOUR);
        x.task(0, 1);
        x.wish(0, 1, 1);
        x.wish(0, 1, 1);
        x.theft(0, 0);
        x.theft(0, 0);
        x.theft(0, 0);
        x.days(35);
        x.swap(0, 1);
        x.sign(0);
        x.end(3);
        int[] counts = {4, 35, 0, 1, 2, 3, 30, 2, 2, 3};
        for (int what = 0; what <= 9; what++) {
            due("count(" + what + ")", counts[what], x.count(what));
        }
        x.day();
        due("who is hooded in day 36", 3, x.count(2));
        due("10", NONE, x.count(10));
        due("-1", NONE, x.count(-1));
    }

    private static void row() {
        NinthDayHooded x = townOf(FOUR);
        x.guides(0);
        due("the last number", 2, x.row(3));
        dueThrow("row(4)", () -> x.row(4));
        dueThrow("row(-1)", () -> x.row(-1));
        x.blindest();
        due("a new row", 2, x.row(0));
        dueThrow("row(1)", () -> x.row(1));
        x.needed();
        x.gain(0, 1);
        x.ferry(0, 1, 1);
        dueRow("calls that tell none leave it", x, 2);
    }
}
