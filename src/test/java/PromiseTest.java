import java.util.function.IntSupplier;

/** Each promise of the document by hand: ordinary inputs, edges, and errors in the order in which they are asked. */
public final class PromiseTest {
    private static final int LOW = -1000000000;
    private static final int BEYOND = LOW - 1;
    private static final int NONE = LOW - 2;
    private static final int STATE = LOW - 3;
    private static final int FULL = LOW - 4;
    private static final int KIND = LOW - 5;
    private static int wrong = 0;

    private static void due(String what, long got, long want) {
        if (got != want) {
            wrong++;
            System.out.println(what + " answered " + got + ", due is " + want);
        }
    }

    /** An error is counted once; that it changes nothing else is held by Run, in EdgesTest. */
    private static void refused(String what, CraneFolds x, int error, IntSupplier call) {
        int told = x.told(LOW - error);
        due(what, call.getAsInt(), error);
        due(what + " is told", x.told(LOW - error), told + 1);
    }

    private static String seen(CraneFolds x) {
        StringBuilder all = new StringBuilder();
        for (int k = 0; k < 10; k++) all.append(x.count(k)).append(' ');
        for (int p = 0; p < x.count(0); p++)
            for (int k = 0; k < 10; k++) all.append(x.ofPaper(p, k)).append(' ');
        for (int k = 0; k < x.count(8); k++) all.append(x.trace(k)).append(' ');
        all.append(x.law(0, 3, 4, 5)).append(' ').append(x.law(1, 700, 80, 3));
        return all.toString();
    }

    private static void say(CraneFolds x, String text) {
        for (int i = 0; i < text.length(); i++) x.feed(text.charAt(i), 1);
    }

    private static int text(CraneFolds x, int use, String text) {
        say(x, text);
        return x.text(use);
    }

    /** A paper with just these creases, whatever its kind holds. */
    private static int folded(CraneFolds x, int km, int debt, int creases) {
        int p = x.paper(0, debt);
        for (int k = 0; k < 7; k++) if ((creases >> k & 1) == 1) x.fold(p, k);
        x.become(p, km);
        return p;
    }

    private static int gone(CraneFolds x, int km, int debt, int creases) {
        int p = folded(x, km, debt, creases);
        x.change(p, 1, 1);
        return p;
    }

    private static void row(CraneFolds x, int sheet, int bits, int... numbers) {
        x.sheet(sheet, bits, numbers.length);
        for (int i = 0; i < numbers.length; i++) x.put(sheet, i, numbers[i]);
    }

    public static void main(String[] args) {
        newObject();
        paper();
        ofPaper();
        change();
        fold();
        release();
        wind();
        become();
        as();
        feed();
        text();
        law();
        days();
        loose();
        shape();
        least();
        shapes();
        way();
        open();
        alike();
        then();
        first();
        best();
        fits();
        owed();
        debtor();
        odds();
        seed();
        voice();
        trace();
        sheet();
        put();
        move();
        debts();
        judge();
        image();
        restore();
        tell();
        check();
        count();
        told();
        System.out.println(wrong == 0 ? "all answers are as due" : wrong + " answers are not as due");
        if (wrong != 0) System.exit(1);
    }

    private static void newObject() {
        CraneFolds x = new CraneFolds();
        for (int k = 0; k < 9; k++) due("new: count(" + k + ")", x.count(k), 0);
        due("new: z", x.count(9), 1);
        for (int k = 1; k <= 5; k++) due("new: told(" + k + ")", x.told(k), 0);
        due("new: going", x.law(0, 3, 9, 2), 8);
        due("new: lapse", x.law(1, 0, 99, 0), 9);
        for (int k = 0; k < 4; k++) due("new: sheet " + k, x.judge(k), NONE);
        due("new: trace", x.trace(0), NONE);
        due("new: restore", x.restore(), NONE);
        due("new: check", x.check(), 0);
        due("new: paper", x.ofPaper(0, 0), BEYOND);
    }

    private static void paper() {
        CraneFolds x = new CraneFolds();
        due("paper(0, 0)", x.paper(0, 0), 0);
        due("paper(69, 9999)", x.paper(69, 9999), 1);
        due("its kind", x.ofPaper(1, 0), 6);
        due("its m", x.ofPaper(1, 1), 9);
        due("its debt", x.ofPaper(1, 2), 9999);
        for (int k = 3; k < 8; k++) due("its " + k, x.ofPaper(1, k), new int[] {0, 0, 0, 8, 1}[k - 3]);
        refused("paper(-1, 0)", x, BEYOND, () -> x.paper(-1, 0));
        refused("paper(70, 0)", x, BEYOND, () -> x.paper(70, 0));
        refused("paper(0, -1)", x, BEYOND, () -> x.paper(0, -1));
        refused("paper(0, 10000)", x, BEYOND, () -> x.paper(0, 10000));
        for (int k = 2; k < 8; k++) due("paper " + k, x.paper(k * 8, k), k);
        refused("a ninth", x, FULL, () -> x.paper(0, 0));
        refused("a ninth that is none", x, BEYOND, () -> x.paper(70, 0));
    }

    private static void ofPaper() {
        int[][] stiff = {
            {8, 8, 8, 8, 8, 8, 8, 8, 8, 8}, {8, 7, 6, 5, 8, 7, 6, 5, 8, 7}, {4, 4, 4, 4, 4, 4, 4, 4, 4, 4},
            {6, 6, 6, 6, 6, 6, 6, 6, 6, 6}, {7, 6, 5, 4, 7, 6, 5, 4, 7, 6}, {4, 5, 4, 5, 4, 5, 4, 5, 4, 5},
            {3, 3, 3, 3, 3, 3, 3, 3, 3, 3}};
        int[][] lives = {
            {4, 4, 4, 4, 4, 4, 4, 4, 4, 4}, {4, 5, 6, 4, 5, 6, 4, 5, 6, 4}, {5, 5, 5, 5, 5, 5, 5, 5, 5, 5},
            {3, 3, 3, 3, 3, 3, 3, 3, 3, 3}, {4, 5, 6, 4, 5, 6, 4, 5, 6, 4}, {5, 5, 5, 5, 5, 5, 5, 5, 5, 5},
            {6, 6, 6, 6, 6, 6, 6, 6, 6, 6}};
        // Sets by which a strip is 3, 4, .. 8 wide.
        int[] byWidth = {36, 8, 4, 2, 1, 0};
        for (int kind = 0; kind < 7; kind++) {
            CraneFolds x = new CraneFolds();
            for (int i = 0; i < byWidth.length; i++) folded(x, 0, 5, byWidth[i]);
            for (int m = 0; m < 10; m++) {
                x.become(0, 10 * kind + m);
                due("stiff " + kind + m, x.ofPaper(0, 8), stiff[kind][m]);
            }
            for (int m = 0; m < 10; m += 1 + kind % 2)
                for (int i = 0; i < byWidth.length; i++) {
                    x.become(i, 10 * kind + m);
                    due("lives " + kind + m + " at " + (i + 3), x.ofPaper(i, 9), i + 3 <= lives[kind][m] ? 1 : 0);
                }
        }
        CraneFolds x = new CraneFolds();
        gone(x, 27, 44, 36);
        x.change(0, 2, 77);
        int[] want = {2, 7, 44, 36, 1, 77, 3, 3, 4, 1};
        for (int k = 0; k < 10; k++) due("ofPaper(0, " + k + ")", x.ofPaper(0, k), want[k]);
        refused("ofPaper(-1, 0)", x, BEYOND, () -> x.ofPaper(-1, 0));
        refused("ofPaper(1, 0)", x, BEYOND, () -> x.ofPaper(1, 0));
        refused("ofPaper(0, -1)", x, BEYOND, () -> x.ofPaper(0, -1));
        refused("ofPaper(0, 10)", x, BEYOND, () -> x.ofPaper(0, 10));
    }

    private static void change() {
        CraneFolds x = new CraneFolds();
        x.paper(0, 12);
        due("change debt", x.change(0, 0, 9999), 12);
        due("change debt back", x.change(0, 0, 0), 9999);
        due("change up, though it doesn't live", x.change(0, 1, 1), 0);
        due("it is up", x.ofPaper(0, 4), 1);
        due("change up back", x.change(0, 1, 0), 1);
        due("change far", x.change(0, 2, 999), 0);
        due("change far back", x.change(0, 2, 3), 999);
        due("far", x.ofPaper(0, 5), 3);
        refused("change(1, 0, 0)", x, BEYOND, () -> x.change(1, 0, 0));
        refused("change(-1, 0, 0)", x, BEYOND, () -> x.change(-1, 0, 0));
        refused("change(0, 3, 0)", x, BEYOND, () -> x.change(0, 3, 0));
        refused("change(0, -1, 0)", x, BEYOND, () -> x.change(0, -1, 0));
        refused("change(0, 0, 10000)", x, BEYOND, () -> x.change(0, 0, 10000));
        refused("change(0, 0, -1)", x, BEYOND, () -> x.change(0, 0, -1));
        refused("change(0, 1, 2)", x, BEYOND, () -> x.change(0, 1, 2));
        refused("change(0, 1, -1)", x, BEYOND, () -> x.change(0, 1, -1));
        refused("change(0, 2, 1000)", x, BEYOND, () -> x.change(0, 2, 1000));
        refused("change(0, 2, -1)", x, BEYOND, () -> x.change(0, 2, -1));
    }

    private static void fold() {
        CraneFolds x = new CraneFolds();
        x.paper(0, 1);
        due("fold(0, 0)", x.fold(0, 0), 7);
        due("fold(0, 6)", x.fold(0, 6), 6);
        due("creases", x.ofPaper(0, 3), 65);
        due("fold(0, 0) again", x.fold(0, 0), 7);
        due("creases less", x.ofPaper(0, 3), 64);
        refused("fold(0, 7)", x, BEYOND, () -> x.fold(0, 7));
        refused("fold(0, -1)", x, BEYOND, () -> x.fold(0, -1));
        refused("fold(1, 0)", x, BEYOND, () -> x.fold(1, 0));
        x.change(0, 1, 1);
        refused("one that is up", x, STATE, () -> x.fold(0, 0));
        refused("one that is up, no crease", x, BEYOND, () -> x.fold(0, 7));
        int stamped = x.paper(60, 1);
        due("stamped 1 thick as 3", x.fold(stamped, 0) + 10 * x.fold(stamped, 1), 67);
        refused("thicker than 3", x, STATE, () -> x.fold(stamped, 2));
        int all = folded(x, 60, 1, 127);
        refused("unfolded, but too thick still", x, STATE, () -> x.fold(all, 0));
    }

    private static void release() {
        CraneFolds x = new CraneFolds();
        folded(x, 0, 77, 8);
        folded(x, 0, 5, 4);
        folded(x, 60, 9, 127);
        due("release", x.release(0), 77);
        due("it is up", x.ofPaper(0, 4), 1);
        refused("one that is up", x, STATE, () -> x.release(0));
        refused("too wide", x, STATE, () -> x.release(1));
        due("thicker than stiff, and lives", x.release(2), 9);
        refused("release(3)", x, BEYOND, () -> x.release(3));
        refused("release(-1)", x, BEYOND, () -> x.release(-1));
    }

    private static void wind() {
        CraneFolds x = new CraneFolds();
        due("wind(9)", x.wind(9), 0);
        due("wind(0)", x.wind(0), 9);
        due("wind(4)", x.wind(4), 0);
        due("count(2)", x.count(2), 4);
        refused("wind(10)", x, BEYOND, () -> x.wind(10));
        refused("wind(-1)", x, BEYOND, () -> x.wind(-1));
    }

    private static void become() {
        CraneFolds x = new CraneFolds();
        gone(x, 14, 55, 127);
        x.change(0, 2, 9);
        due("become(0, 69)", x.become(0, 69), 1);
        int[] want = {6, 9, 55, 127, 1, 9, 1, 8, 3, 1};
        for (int k = 0; k < 10; k++) due("then " + k, x.ofPaper(0, k), want[k]);
        due("become(0, 0)", x.become(0, 0), 6);
        refused("become(0, 70)", x, BEYOND, () -> x.become(0, 70));
        refused("become(0, -1)", x, BEYOND, () -> x.become(0, -1));
        refused("become(1, 0)", x, BEYOND, () -> x.become(1, 0));
        refused("become(-1, 0)", x, BEYOND, () -> x.become(-1, 0));
    }

    private static void as() {
        // Of each kind those, as a set, as which it may be taken.
        int[] sets = {0b1, 0b11, 0b101, 0b1001, 0b10011, 0b100101, 0b1001001};
        CraneFolds x = new CraneFolds();
        for (int kind = 0; kind < 7; kind++) {
            x.paper(10 * kind + kind + 1, 0);
            for (int other = 0; other < 7; other++)
                due("as " + kind + " " + other, x.as(kind, other), (sets[kind] >> other & 1) == 1 ? kind + 1 : KIND);
        }
        refused("as(0, 1)", x, KIND, () -> x.as(0, 1));
        refused("as(0, 7)", x, BEYOND, () -> x.as(0, 7));
        refused("as(0, -1)", x, BEYOND, () -> x.as(0, -1));
        refused("as(7, 0)", x, BEYOND, () -> x.as(7, 0));
        refused("as(-1, 0)", x, BEYOND, () -> x.as(-1, 0));
    }

    private static void feed() {
        CraneFolds x = new CraneFolds();
        due("feed 3 of 8 bytes", x.feed(0x7A7A7A7A7A772D39L, 3), 3);
        due("they are read", x.text(0), 1);
        due("lowest first: 9-w", x.law(0, 2, 0, 0), 7);
        due("feed one", x.feed(-1L, 1), 1);
        due("byte 255 is none", x.text(0), -10);
        refused("feed(0, 0)", x, BEYOND, () -> x.feed(0L, 0));
        refused("feed(0, 9)", x, BEYOND, () -> x.feed(0L, 9));
        refused("feed(0, -1)", x, BEYOND, () -> x.feed(0L, -1));
        for (int k = 1; k <= 6; k++) due("eight more", x.feed(0x3131313131313131L, 8), 8 * k);
        refused("51 bytes", x, FULL, () -> x.feed(0x31L, 3));
        refused("51 bytes, none", x, BEYOND, () -> x.feed(0x31L, 9));
        due("50 bytes", x.feed(0x3131L, 2), 50);
        refused("one too many", x, FULL, () -> x.feed(0x31L, 1));
        due("count(6)", x.count(6), 50);
    }

    private static void text() {
        CraneFolds x = new CraneFolds();
        Object[][] faults = {
            {"", 0}, {"x", 0}, {"o", 0}, {"1+", 2}, {"12345", 4}, {"1234", -1}, {"(12345)", 5}, {"1<2<3", 3},
            {"1<2=3", 3}, {"(1<2)<3", -1}, {"1<2&3<4|5=6", -1}, {"!!!!!w", -1}, {"!!!!!!w", 5}, {"(((((w)))))", -1},
            {"((((((w))))))", 5}, {"!(!(!w))", -1}, {"!(!(!(w)))", 5}, {"!w+!w+!w+!w+!w+!w", -1},
            {"(w)+(w)+(w)+(w)+(w)+(w)", -1}, {"(w", 2}, {"w)", 1}, {"()", 1}, {"w h", 1}, {" w", 0}, {"-1", 0},
            {"ww", 1}, {"1w", 1}, {"w1", 1}, {"(w)(h)", 3}, {"w!h", 1}, {"!", 1}, {"w++h", 2}, {"w*(h|b)%3", -1},
            {"w&&h", 2}, {"w<", 2}, {"w==h", 2}, {"0000", -1}, {"w.", 1}, {"9-W", 2},
        };
        for (Object[] f : faults) {
            String text = (String) f[0];
            int fault = (Integer) f[1];
            due("text " + text, text(x, 0, text), fault < 0 ? 1 : -10 - fault);
            due("the tape behind " + text, x.count(6), 0);
        }
        due("names of the other use", text(x, 1, "o+f*d"), 1);
        due("w is none there", text(x, 1, "w"), -10);
        due("the one ahead stays", x.law(1, 2, 3, 4), 14);
        due("in place of one ahead", text(x, 1, "7"), 1);
        due("it gives 7", x.law(1, 2, 3, 4), 7);
        say(x, "5");
        refused("text(2)", x, BEYOND, () -> x.text(2));
        refused("text(-1)", x, BEYOND, () -> x.text(-1));
        due("the tape stays", x.text(0), 1);
        due("going", x.law(0, 1, 1, 1), 5);
        int none = x.told(1);
        text(x, 0, "((");
        due("a fault is no error", x.told(1), none);
        StringBuilder most = new StringBuilder("1");
        for (int i = 0; i < 24; i++) most.append("+1");
        due("49 bytes", text(x, 0, most.toString()), 1);
        due("25 ones", x.law(0, 0, 0, 0), 25);
        due("50 bytes, too early", text(x, 0, most + "+"), -60);
    }

    private static void law() {
        CraneFolds x = new CraneFolds();
        due("9-w+b", x.law(0, 3, 77, 2), 8);
        due("held below", x.law(0, 10, 0, 0), 0);
        due("held above", x.law(0, 0, 0, 91), 99);
        due("wraps", x.law(0, Integer.MIN_VALUE, 0, 0), 0);
        due("f/10", x.law(1, 5, 9999, 5), 999);
        due("f/10 cut", x.law(1, 5, 19, 5), 1);
        due("f/10 below", x.law(1, 5, -19, 5), 0);
        Object[][] worths = {
            {"w-h-b", 10, 3, 2, 5}, {"w-(h-b)", 10, 3, 2, 9}, {"w/h/b", 50, 4, 3, 4}, {"w*h%b", 7, 5, 4, 3},
            {"50+(0-7)/2", 0, 0, 0, 47}, {"50+(0-7)%4", 0, 0, 0, 47}, {"50+w/0", 9, 0, 0, 50}, {"50+w%0", 9, 0, 0, 50},
            {"9+w%h*2", 9, 5, 0, 17}, {"w|h", 0, 7, 0, 1}, {"w|h", 0, 0, 0, 0}, {"w&h", 5, 8, 0, 1}, {"w&h", 5, 0, 0, 0},
            {"w", 42, 0, 0, 42}, {"(w)", 42, 0, 0, 42}, {"!w", 42, 0, 0, 0}, {"!w", 0, 0, 0, 1}, {"!!w", 42, 0, 0, 1},
            {"!w+5", 0, 0, 0, 6}, {"!w*h", 0, 7, 0, 7}, {"w<h", 1, 2, 0, 1}, {"w<h", 2, 2, 0, 0}, {"w=h", 2, 2, 0, 1},
            {"w=h", 2, 3, 0, 0}, {"w>h", 3, 2, 0, 1}, {"w>h", 2, 2, 0, 0}, {"w+1<h", 1, 3, 0, 1}, {"1|0&0", 0, 0, 0, 1},
            {"0&0|1", 0, 0, 0, 1}, {"w<h&h<b", 1, 2, 3, 1}, {"2=w|b", 3, 0, 0, 0}, {"0012+b", 0, 0, 1, 13},
            {"w/(0-1)=w", Integer.MIN_VALUE, 0, 0, 1}, {"w%(0-1)+3", Integer.MIN_VALUE, 0, 0, 3},
            {"w+1<w", Integer.MAX_VALUE, 0, 0, 1}, {"w*w", 65536, 0, 0, 0}, {"9999", 0, 0, 0, 99},
            {"w*h+b", 7, 9, 2, 65}, {"b*10+h", 1, 2, 3, 32},
        };
        for (Object[] w : worths) {
            due("text " + w[0], text(x, 0, (String) w[0]), 1);
            due("law " + w[0], x.law(0, (Integer) w[1], (Integer) w[2], (Integer) w[3]), (Integer) w[4]);
        }
        text(x, 1, "o*100+f*10+d");
        due("o, f, d", x.law(1, 3, 4, 15), 355);
        due("held to 999", x.law(1, 10, 0, 0), 999);
        due("held to 0", x.law(1, -1, 0, 0), 0);
        refused("law(2, ..)", x, BEYOND, () -> x.law(2, 0, 0, 0));
        refused("law(-1, ..)", x, BEYOND, () -> x.law(-1, 0, 0, 0));
    }

    private static void days() {
        CraneFolds x = new CraneFolds();
        // All are 4 wide and 2 thick, so that v is 5, and 7 with wind 2.
        for (int kind = 0; kind < 7; kind++) gone(x, 10 * kind, 1000, 8);
        folded(x, 0, 1000, 8);
        x.wind(2);
        int[] a = {7, 14, 11, 5, 14, 0, 3, 0};
        due("days(1)", x.days(1), 8000 - 1 - 1 - 1);
        for (int k = 0; k < 8; k++) due("far of " + k, x.ofPaper(k, 5), a[k]);
        // Day 1 to 4: the sentence goes 11 each, on day 5 it rests.
        x.days(4);
        int[] b = {35, 70, 55, 25, 70, 44, 15, 0};
        for (int k = 0; k < 8; k++) due("far of " + k + " behind 5", x.ofPaper(k, 5), b[k]);
        due("debt of the bill", x.ofPaper(1, 2), 1000 - 1 - 2 - 4 - 5 - 7);
        due("days(1) on day 5", x.days(1), x.count(3));
        due("the sentence rests", x.ofPaper(5, 5), 44);
        due("the order goes", x.ofPaper(2, 5), 66);
        due("one not up", x.ofPaper(7, 2), 1000);
        x.change(1, 2, 990);
        x.change(1, 0, 150);
        x.days(1);
        due("far is held", x.ofPaper(1, 5), 999);
        due("debt less by 99", x.ofPaper(1, 2), 51);
        x.days(1);
        due("debt is 0 at least", x.ofPaper(1, 2), 0);
        due("day", x.count(1), 8);
        x.change(7, 2, 500);
        x.change(1, 0, 1);
        x.days(1);
        due("one not up, though far", x.ofPaper(7, 2), 1000);
        due("a debt of 1", x.ofPaper(1, 2), 0);
        text(x, 1, "d*100+o/100");
        x.change(0, 0, 5000);
        x.days(1);
        due("day 9 is 2, debt as it was", x.ofPaper(0, 2), 5000 - 250);
        CraneFolds letter = new CraneFolds();
        gone(letter, 30, 9, 127);
        letter.days(1);
        due("v 8 less thick 8", letter.ofPaper(0, 5), 0);
        for (int k = 0; k < 166; k++) letter.days(60);
        due("day 9961", letter.count(1), 9961);
        refused("day 10000", letter, STATE, () -> letter.days(39));
        refused("days(61)", letter, BEYOND, () -> letter.days(61));
        refused("days(0)", letter, BEYOND, () -> letter.days(0));
        refused("days(-1)", letter, BEYOND, () -> letter.days(-1));
        due("to 9999", letter.days(38), 9);
        due("day 9999", letter.count(1), 9999);
        refused("behind the last", letter, STATE, () -> letter.days(1));
        refused("loose behind the last", letter, STATE, () -> letter.loose(1));
        refused("loose(41) behind the last", letter, BEYOND, () -> letter.loose(41));
    }

    private static void loose() {
        CraneFolds x = new CraneFolds();
        gone(x, 0, 500, 8);
        int z = 1;
        int far = 0;
        int debt = 500;
        for (int k = 0; k < 5; k++) {
            z = z * 1103515245 + 12345;
            far += 5 + (z >>> 8) % 10;
            debt -= far / 10;
        }
        due("loose(5)", x.loose(5), debt);
        due("far", x.ofPaper(0, 5), far);
        due("z", x.count(9), z);
        due("wind", x.count(2), (z >>> 8) % 10);
        due("day", x.count(1), 5);
        refused("loose(0)", x, BEYOND, () -> x.loose(0));
        refused("loose(41)", x, BEYOND, () -> x.loose(41));
        x.loose(40);
        due("day 45", x.count(1), 45);
        for (int k = 0; k < 165; k++) x.days(60);
        x.days(15);
        refused("day 10000", x, STATE, () -> x.loose(40));
        due("day 9960", x.count(1), 9960);
        x.loose(39);
        due("just to 9999", x.count(1), 9999);
    }

    private static void shape() {
        CraneFolds x = new CraneFolds();
        int[][] want = {{0, 8, 1}, {1, 7, 2}, {2, 6, 2}, {4, 5, 2}, {8, 4, 2}, {64, 7, 2}, {36, 3, 3}, {127, 1, 8}, {3, 6, 3},
            {85, 2, 4}, {65, 6, 2}, {42, 2, 4}};
        for (int[] w : want) {
            due("shape(" + w[0] + ", 0)", x.shape(w[0], 0), w[1]);
            due("shape(" + w[0] + ", 1)", x.shape(w[0], 1), w[2]);
        }
        refused("shape(-1, 0)", x, BEYOND, () -> x.shape(-1, 0));
        refused("shape(128, 0)", x, BEYOND, () -> x.shape(128, 0));
        refused("shape(0, 2)", x, BEYOND, () -> x.shape(0, 2));
        refused("shape(0, -1)", x, BEYOND, () -> x.shape(0, -1));
    }

    private static void least() {
        CraneFolds x = new CraneFolds();
        for (int k = 1; k <= 8; k++) due("least(8, " + k + ")", x.least(8, k), 0);
        due("least(7, 8)", x.least(7, 8), 1);
        due("least(6, 2)", x.least(6, 2), 2);
        due("least(5, 8)", x.least(5, 8), 4);
        for (int w = 1; w <= 8; w++)
            for (int t = 1; t <= 8; t++) due("least(" + w + ", " + t + ")", x.least(w, t), searchLeast(w, t));
        due("least(1, 8)", x.least(1, 8), 127);
        refused("least(1, 7)", x, NONE, () -> x.least(1, 7));
        refused("least(7, 1)", x, NONE, () -> x.least(7, 1));
        refused("least(0, 1)", x, BEYOND, () -> x.least(0, 1));
        refused("least(9, 1)", x, BEYOND, () -> x.least(9, 1));
        refused("least(1, 0)", x, BEYOND, () -> x.least(1, 0));
        refused("least(1, 9)", x, BEYOND, () -> x.least(1, 9));
    }

    private static int searchLeast(int wide, int thick) {
        for (int many = 0; many < 8; many++)
            for (int set = 0; set < 128; set++)
                if (Integer.bitCount(set) == many && NaiveFolds.wide(set) <= wide && NaiveFolds.thick(set) <= thick)
                    return set;
        return NONE;
    }

    private static void shapes() {
        CraneFolds x = new CraneFolds();
        int all = 0;
        for (int w = 1; w <= 8; w++) for (int t = 1; t <= 8; t++) all += x.shapes(w, t, 0);
        due("all sets are of some shape", all, 128);
        due("shapes(8, 1, 0)", x.shapes(8, 1, 0), 1);
        due("shapes(8, 1, 1)", x.shapes(8, 1, 1), 0);
        due("shapes(7, 2, 0)", x.shapes(7, 2, 0), 2);
        due("shapes(7, 2, 1)", x.shapes(7, 2, 1), 1);
        due("shapes(1, 8, 1)", x.shapes(1, 8, 1), 127);
        due("shapes(1, 1, 0)", x.shapes(1, 1, 0), 0);
        refused("shapes(1, 1, 1)", x, NONE, () -> x.shapes(1, 1, 1));
        refused("shapes(0, 1, 0)", x, BEYOND, () -> x.shapes(0, 1, 0));
        refused("shapes(9, 1, 0)", x, BEYOND, () -> x.shapes(9, 1, 0));
        refused("shapes(1, 0, 0)", x, BEYOND, () -> x.shapes(1, 0, 0));
        refused("shapes(1, 9, 0)", x, BEYOND, () -> x.shapes(1, 9, 0));
        refused("shapes(1, 1, 2)", x, BEYOND, () -> x.shapes(1, 1, 2));
        refused("shapes(1, 1, -1)", x, BEYOND, () -> x.shapes(1, 1, -1));
    }

    private static void way() {
        CraneFolds x = new CraneFolds();
        x.paper(0, 0);
        due("way to what it is", x.way(0, 0), 0);
        due("way to all", x.way(0, 127), 7);
        due("way(0, 85)", x.way(0, 85), 4);
        folded(x, 60, 0, 127);
        due("too thick, but there already", x.way(1, 127), 0);
        refused("each fold leaves it too thick", x, NONE, () -> x.way(1, 0));
        x.paper(60, 0);
        refused("a shape too thick", x, NONE, () -> x.way(2, 127));
        due("way of a stiff one", x.way(2, 3), 2);
        gone(x, 0, 0, 8);
        due("one that is up", x.way(3, 9), 1);
        refused("way(4, 0)", x, BEYOND, () -> x.way(4, 0));
        refused("way(-1, 0)", x, BEYOND, () -> x.way(-1, 0));
        refused("way(0, 128)", x, BEYOND, () -> x.way(0, 128));
        refused("way(0, -1)", x, BEYOND, () -> x.way(0, -1));
        detours();
    }

    /** Ways of a stiff paper held against walks of 0, 1, .. folds over all sets. */
    private static void detours() {
        CraneFolds x = new CraneFolds();
        folded(x, 60, 0, 2);
        boolean[] reached = new boolean[128];
        int[] far = new int[128];
        java.util.Arrays.fill(far, NONE);
        reached[2] = true;
        far[2] = 0;
        for (int n = 1; n < 40; n++) {
            boolean[] next = reached.clone();
            for (int set = 0; set < 128; set++)
                for (int k = 0; k < 7 && reached[set]; k++)
                    if (NaiveFolds.thick(set ^ 1 << k) <= 3) next[set ^ 1 << k] = true;
            for (int set = 0; set < 128; set++) if (next[set] && !reached[set]) far[set] = n;
            reached = next;
        }
        int longer = 0;
        for (int set = 0; set < 128; set++) {
            due("way(0, " + set + ")", x.way(0, set), far[set]);
            if (far[set] > Integer.bitCount(set ^ 2)) longer++;
        }
        due("some ways are longer than what differs", longer > 0 ? 1 : 0, 1);
        due("one of these", x.way(0, 27), 5);
    }

    private static void open() {
        CraneFolds x = new CraneFolds();
        folded(x, 0, 0, 127);
        folded(x, 0, 0, 42);
        x.paper(0, 0);
        due("open(0, 1)", x.open(0, 1), 0);
        due("open(0, 2)", x.open(0, 2), 1);
        due("open(0, 8)", x.open(0, 8), 127);
        due("open(1, 2)", x.open(1, 2), 0);
        due("open(1, 3)", x.open(1, 3), 2);
        due("open(1, 8)", x.open(1, 8), 42);
        due("open(2, 8)", x.open(2, 8), 0);
        due("nothing is unfolded", x.ofPaper(0, 3), 127);
        int p = folded(x, 0, 0, 45);
        for (int w = 1; w <= 8; w++) due("open(3, " + w + ")", x.open(p, w), searchOpen(45, w));
        due("one crease rather than 12, which is less", x.open(p, 5), 32);
        refused("open(0, 0)", x, BEYOND, () -> x.open(0, 0));
        refused("open(0, 9)", x, BEYOND, () -> x.open(0, 9));
        refused("open(4, 1)", x, BEYOND, () -> x.open(4, 1));
        refused("open(-1, 1)", x, BEYOND, () -> x.open(-1, 1));
    }

    private static int searchOpen(int creases, int wide) {
        for (int many = 0; many < 8; many++)
            for (int set = 0; set < 128; set++)
                if (Integer.bitCount(set) == many && (set & creases) == set && NaiveFolds.wide(creases - set) >= wide)
                    return set;
        return NONE;
    }

    private static void alike() {
        CraneFolds x = new CraneFolds();
        refused("alike(1) without papers", x, NONE, () -> x.alike(1));
        folded(x, 0, 0, 8);
        folded(x, 0, 0, 1);
        folded(x, 0, 0, 8);
        due("the same creases", x.alike(0), 0);
        refused("none", x, NONE, () -> x.alike(1));
        folded(x, 0, 0, 64);
        folded(x, 0, 0, 64);
        due("1 with 3 and 4", x.alike(0), 2);
        due("the first", x.alike(1), 13);
        refused("alike(2)", x, BEYOND, () -> x.alike(2));
        refused("alike(-1)", x, BEYOND, () -> x.alike(-1));
        x.fold(0, 3);
        x.fold(0, 6);
        due("0 with 1 as well", x.alike(0), 3);
        due("neighbours", x.alike(1), 1);
        CraneFolds y = new CraneFolds();
        // 2 and 3 are as wide, but not as thick.
        folded(y, 0, 0, 2);
        folded(y, 0, 0, 3);
        due("as wide alone", y.alike(0), 0);
    }

    private static void then() {
        CraneFolds x = new CraneFolds();
        gone(x, 0, 100, 8);
        folded(x, 10, 70, 8);
        due("then(0, 0, 0)", x.then(0, 0, 0), 0);
        due("then(3, 0, 0)", x.then(3, 0, 0), 15);
        due("then(3, 0, 1)", x.then(3, 0, 1), 98);
        due("then(60, 0, 0)", x.then(60, 0, 0), 300);
        due("then(60, 0, 1)", x.then(60, 0, 1), 0);
        due("one that isn't up", x.then(60, 1, 0) + x.then(60, 1, 1), 70);
        x.change(1, 2, 500);
        due("one that isn't up, though far", x.then(60, 1, 1), 70);
        due("it is only thought", x.count(1) + x.ofPaper(0, 5), 0);
        refused("then(61, 0, 0)", x, BEYOND, () -> x.then(61, 0, 0));
        refused("then(-1, 0, 0)", x, BEYOND, () -> x.then(-1, 0, 0));
        refused("then(0, 2, 0)", x, BEYOND, () -> x.then(0, 2, 0));
        refused("then(0, -1, 0)", x, BEYOND, () -> x.then(0, -1, 0));
        refused("then(0, 0, 2)", x, BEYOND, () -> x.then(0, 0, 2));
        refused("then(0, 0, -1)", x, BEYOND, () -> x.then(0, 0, -1));
        beyondTheLastDay();
    }

    private static void beyondTheLastDay() {
        CraneFolds x = new CraneFolds();
        for (int k = 0; k < 166; k++) x.days(60);
        x.days(39);
        gone(x, 50, 9000, 8);
        gone(x, 0, 9000, 8);
        text(x, 1, "d*100");
        // Day 9999 is 3 of 7; 10000 is 4, and 5 divides it; 10001 is 5.
        due("a sentence rests on day 10000", x.then(3, 0, 0), 18);
        due("days of 7 go on", x.then(3, 1, 1), 9000 - 300 - 400 - 500);
        due("owed goes on", x.owed(3), 2 * (9000 - 1200));
        due("first goes on", x.first(0), 15);
        due("day stays", x.count(1), 9999);
    }

    private static void first() {
        CraneFolds x = new CraneFolds();
        refused("first without papers", x, NONE, () -> x.first(0));
        folded(x, 0, 9, 8);
        refused("none is up", x, NONE, () -> x.first(1));
        gone(x, 0, 9, 8);
        gone(x, 10, 9, 8);
        gone(x, 40, 9, 8);
        due("behind 10", x.first(0), 10);
        due("the least of two", x.first(1), 2);
        x.change(2, 2, 100);
        due("one is gone now", x.first(0), 10);
        due("the other", x.first(1), 3);
        x.change(3, 2, 999);
        due("the next", x.first(0), 20);
        due("who", x.first(1), 1);
        x.change(1, 2, 99);
        due("tomorrow", x.first(0), 1);
        x.change(1, 2, 100);
        refused("all are gone", x, NONE, () -> x.first(0));
        refused("first(2)", x, BEYOND, () -> x.first(2));
        refused("first(-1)", x, BEYOND, () -> x.first(-1));
        CraneFolds y = new CraneFolds();
        gone(y, 0, 9, 8);
        text(y, 0, "1");
        y.change(0, 2, 40);
        due("just by 60", y.first(0), 60);
        y.change(0, 2, 39);
        refused("not by 60", y, NONE, () -> y.first(0));
    }

    private static void best() {
        CraneFolds x = new CraneFolds();
        x.paper(0, 0);
        x.paper(60, 0);
        gone(x, 20, 0, 8);
        x.change(2, 2, 980);
        // A paper goes 9 - w: the least wide is best, and that is 127, 1 wide.
        due("best(0, 1, 0)", x.best(0, 1, 0), 127);
        due("best(0, 1, 1)", x.best(0, 1, 1), 8);
        due("best(0, 60, 1)", x.best(0, 60, 1), 480);
        due("best(0, 0, 0)", x.best(0, 0, 0), 8);
        due("best(0, 0, 1)", x.best(0, 0, 1), 0);
        due("stamped, none farther", x.best(1, 0, 0), 2);
        due("an order goes 9 by any", x.best(2, 2, 1), 998);
        due("and the least is", x.best(2, 2, 0), 4);
        due("held", x.best(2, 60, 1), 999);
        text(x, 0, "w=6");
        due("stamped goes half of 1", x.best(1, 60, 1), 0);
        text(x, 0, "(w=3)*50");
        due("as wide as 3", x.shape(x.best(1, 60, 0), 0), 3);
        due("its far", x.best(1, 3, 1), 75);
        refused("best(3, 0, 0)", x, BEYOND, () -> x.best(3, 0, 0));
        refused("best(-1, 0, 0)", x, BEYOND, () -> x.best(-1, 0, 0));
        refused("best(0, 61, 0)", x, BEYOND, () -> x.best(0, 61, 0));
        refused("best(0, -1, 0)", x, BEYOND, () -> x.best(0, -1, 0));
        refused("best(0, 0, 2)", x, BEYOND, () -> x.best(0, 0, 2));
        refused("best(0, 0, -1)", x, BEYOND, () -> x.best(0, 0, -1));
    }

    private static void fits() {
        CraneFolds x = new CraneFolds();
        row(x, 0, 8, 60);
        due("no papers: all winds", x.fits(0, 0), 1023);
        due("how many", x.fits(0, 1), 10);
        gone(x, 0, 5, 8);
        folded(x, 10, 5, 8);
        x.change(1, 2, 3);
        x.wind(9);
        row(x, 0, 16, 24, 3, 3);
        due("5 and 3 a day", x.fits(0, 0), 8);
        due("one wind", x.fits(0, 1), 1);
        row(x, 1, 32, 0, 3, 0);
        due("behind 0 days", x.fits(1, 0), 1023);
        row(x, 1, 32, 0, 4, 0);
        due("another far", x.fits(1, 1), 0);
        text(x, 0, "b/4");
        row(x, 2, 8, 60, 3, 60);
        due("winds 4 to 7", x.fits(2, 0), 240);
        due("four", x.fits(2, 1), 4);
        row(x, 2, 8, 60, 3, 61);
        refused("its last is 61", x, NONE, () -> x.fits(2, 0));
        x.put(2, 2, -1);
        refused("its last is -1", x, NONE, () -> x.fits(2, 0));
        x.sheet(2, 8, 2);
        refused("one too few", x, NONE, () -> x.fits(2, 0));
        x.sheet(2, 8, 4);
        refused("one too many", x, NONE, () -> x.fits(2, 0));
        x.sheet(2, 8, 0);
        refused("an empty one", x, NONE, () -> x.fits(2, 0));
        refused("a missing one", x, NONE, () -> x.fits(3, 0));
        refused("a missing one, no such part", x, BEYOND, () -> x.fits(3, 2));
        refused("fits(0, -1)", x, BEYOND, () -> x.fits(0, -1));
        refused("fits(4, 0)", x, BEYOND, () -> x.fits(4, 0));
        refused("fits(-1, 0)", x, BEYOND, () -> x.fits(-1, 0));
    }

    private static void owed() {
        CraneFolds x = new CraneFolds();
        due("owed(60) by none", x.owed(60), 0);
        gone(x, 10, 100, 8);
        folded(x, 10, 70, 8);
        due("owed(0)", x.owed(0), 170);
        due("owed(3)", x.owed(3), 170 - 1 - 2 - 3);
        due("owed(60)", x.owed(60), 70);
        due("it is only thought", x.count(3), 170);
        refused("owed(61)", x, BEYOND, () -> x.owed(61));
        refused("owed(-1)", x, BEYOND, () -> x.owed(-1));
    }

    private static void debtor() {
        CraneFolds x = new CraneFolds();
        refused("without papers", x, NONE, () -> x.debtor(0));
        refused("without papers, debtor(31)", x, BEYOND, () -> x.debtor(31));
        gone(x, 10, 9000, 8);
        folded(x, 0, 9000, 8);
        folded(x, 10, 9000, 8);
        folded(x, 10, 9000, 8);
        due("the least of the two that go most", x.debtor(9), 2);
        due("none yet: the least", x.debtor(0), 0);
        x.change(2, 0, 10);
        due("it has too little", x.debtor(9), 3);
        x.change(3, 2, 999);
        x.change(1, 2, 999);
        due("far already: the least", x.debtor(30), 1);
        x.change(3, 1, 1);
        x.change(1, 1, 1);
        due("the one that is left", x.debtor(5), 2);
        x.change(2, 1, 1);
        due("all are up", x.debtor(5), 0);
        x.change(2, 1, 0);
        x.change(2, 0, 1);
        x.change(2, 2, 500);
        due("one that owes 1", x.debtor(1), 2);
        x.change(2, 1, 0);
        x.fold(2, 3);
        due("a bill that doesn't live: it is 8 wide, and goes 2", x.debtor(20), 2);
        due("it is only thought", x.count(4), 11);
        refused("debtor(31)", x, BEYOND, () -> x.debtor(31));
        refused("debtor(-1)", x, BEYOND, () -> x.debtor(-1));
    }

    private static void odds() {
        CraneFolds x = new CraneFolds();
        int[] kms = {0, 13, 25, 31, 48, 51, 60};
        for (int km : kms) {
            int p = x.paper(km, 0);
            int living = 0;
            int all = 0;
            int limit = new int[] {4, 4, 5, 3, 6, 5, 6}[p];
            for (int set = 0; set < 128; set++)
                if (new CraneFolds().shape(set, 1) <= new int[] {8, 5, 4, 6, 7, 5, 3}[p]) {
                    all++;
                    if (new CraneFolds().shape(set, 0) <= limit) living++;
                }
            int above = x.odds(p, 0);
            int below = x.odds(p, 1);
            due("odds of " + km, (long) above * all, (long) below * living);
            for (int k = 2; k <= below; k++) due("lowest terms", above % k == 0 && below % k == 0 ? k : 0, 0);
        }
        due("odds(0, 0)", x.odds(0, 0), 25);
        due("odds(0, 1)", x.odds(0, 1), 32);
        refused("odds(0, 2)", x, BEYOND, () -> x.odds(0, 2));
        refused("odds(0, -1)", x, BEYOND, () -> x.odds(0, -1));
        refused("odds(7, 0)", x, BEYOND, () -> x.odds(7, 0));
        refused("odds(-1, 0)", x, BEYOND, () -> x.odds(-1, 0));
    }

    private static void seed() {
        CraneFolds x = new CraneFolds();
        due("seed(-5)", x.seed(-5), 1);
        due("seed(BEYOND)", x.seed(BEYOND), -5);
        due("what it was is no error", x.seed(0), BEYOND);
        due("nor counted", x.told(1), 0);
        x.loose(1);
        due("from 0", x.count(9), 12345);
        due("wind", x.count(2), (12345 >>> 8) % 10);
        x.seed(-2);
        x.loose(1);
        int z = -2 * 1103515245 + 12345;
        due("a draw is never below 0", x.count(2), (z >>> 8) % 10);
    }

    private static void voice() {
        CraneFolds x = new CraneFolds();
        for (int kind = 0; kind < 7; kind++) x.paper(10 * kind + 4, 0);
        // n is kind, m is 4: each by hand at x 10.
        int[][] want = {
            {10, 20, 6, 20 ^ 6},
            {33, 66, 6, 66 ^ 6},
            {12, 24 + 3, 6, 27 ^ 6},
            {13, 26, -6, 26 ^ -6},
            {42, 84, 6, (84 ^ 6) - 18},
            {15, 32 + 3, 6, 35 ^ 6},
            {16, 32, -6 ^ 6, 32 - (32 ^ (-6 ^ 6))},
        };
        for (int kind = 0; kind < 7; kind++)
            for (int act = 0; act < 4; act++)
                due("voice(" + kind + ", " + act + ", 10)", x.voice(kind, act, 10), want[kind][act]);
        due("it goes round", x.voice(0, 1, Integer.MAX_VALUE), -2);
        due("an answer like an error", x.voice(0, 0, BEYOND), BEYOND);
        due("is none", x.told(1), 0);
        refused("voice(7, 0, 0)", x, BEYOND, () -> x.voice(7, 0, 0));
        refused("voice(-1, 0, 0)", x, BEYOND, () -> x.voice(-1, 0, 0));
        refused("voice(0, 4, 0)", x, BEYOND, () -> x.voice(0, 4, 0));
        refused("voice(0, -1, 0)", x, BEYOND, () -> x.voice(0, -1, 0));
    }

    private static void trace() {
        CraneFolds x = new CraneFolds();
        for (int kind = 0; kind < 7; kind++) x.paper(10 * kind, 0);
        int[][] tells = {
            {13, 11, 10, 12}, {13, 11, 20, 10, 12}, {13, 30, 11, 10, 12, 12}, {13, 11, 10, 40, 12},
            {50, 13, 11, 20, 10, 12, 20, 10}, {13, 60, 30, 11, 10, 12, 12}, {71, 11, 10, 13, 11, 10, 70, 40, 12}};
        for (int kind = 0; kind < 7; kind++) {
            x.voice(kind, 3, 5);
            due("count(8) of " + kind, x.count(8), tells[kind].length);
            for (int i = 0; i < tells[kind].length; i++) due("trace " + kind + " " + i, x.trace(i), tells[kind][i]);
            int end = tells[kind].length;
            refused("trace behind the end", x, NONE, () -> x.trace(end));
        }
        x.voice(0, 0, 5);
        due("the latest alone", x.count(8), 1);
        due("trace(0)", x.trace(0), 10);
        refused("trace(1)", x, NONE, () -> x.trace(1));
        refused("trace(-1)", x, NONE, () -> x.trace(-1));
        refused("trace(MIN)", x, NONE, () -> x.trace(Integer.MIN_VALUE));
        refused("a voice that is none", x, BEYOND, () -> x.voice(0, 4, 0));
        due("leaves the trace", x.trace(0), 10);
    }

    private static void sheet() {
        CraneFolds x = new CraneFolds();
        for (int bits : new int[] {8, 16, 32}) due("sheet of " + bits, x.sheet(3, bits, 40), 1);
        due("40 numbers", x.put(3, 39, 1), 1);
        due("made anew", x.sheet(3, 32, 40), 1);
        due("all 0, but no papers", x.judge(3), 0);
        due("an empty one", x.sheet(0, 8, 0), 1);
        due("is there", x.judge(0), -1);
        due("missing, n doesn't matter", x.sheet(0, 0, -9), 1);
        due("is missing", x.judge(0), NONE);
        due("missing with 99", x.sheet(1, 0, 99), 1);
        refused("sheet(0, 8, -1)", x, STATE, () -> x.sheet(0, 8, -1));
        refused("sheet(0, 8, MIN)", x, STATE, () -> x.sheet(0, 8, Integer.MIN_VALUE));
        refused("sheet(0, 8, 41)", x, BEYOND, () -> x.sheet(0, 8, 41));
        refused("sheet(4, 8, -1)", x, BEYOND, () -> x.sheet(4, 8, -1));
        refused("sheet(-1, 8, 1)", x, BEYOND, () -> x.sheet(-1, 8, 1));
        refused("sheet(0, 7, -1)", x, BEYOND, () -> x.sheet(0, 7, -1));
        refused("sheet(0, 64, 1)", x, BEYOND, () -> x.sheet(0, 64, 1));
        refused("sheet(0, -8, 1)", x, BEYOND, () -> x.sheet(0, -8, 1));
        due("it is missing still", x.judge(0), NONE);
        x.paper(0, 7);
        row(x, 2, 8, 5);
        x.sheet(2, 8, 1);
        due("its numbers are 0 again", x.judge(2), -1);
    }

    private static void put() {
        CraneFolds x = new CraneFolds();
        x.paper(0, 7);
        row(x, 0, 8, 256 + 100);
        due("lowest 8 bits", x.debts(0), 1);
        due("are 100", x.ofPaper(0, 2), 100);
        row(x, 0, 16, 65536 + 300);
        due("lowest 16 bits", x.debts(0), 1);
        due("are 300", x.ofPaper(0, 2), 300);
        row(x, 0, 32, 65536 + 300);
        due("32 bits hold it", x.debts(0), 0);
        refused("put(4, 0, 0)", x, BEYOND, () -> x.put(4, 0, 0));
        refused("put(-1, 0, 0)", x, BEYOND, () -> x.put(-1, 0, 0));
        refused("put(1, 0, 0)", x, NONE, () -> x.put(1, 0, 0));
        refused("put(1, 99, 0)", x, NONE, () -> x.put(1, 99, 0));
        refused("put(0, 1, 0)", x, BEYOND, () -> x.put(0, 1, 0));
        refused("put(0, -1, 0)", x, BEYOND, () -> x.put(0, -1, 0));
    }

    private static void move() {
        CraneFolds x = new CraneFolds();
        for (int k = 0; k < 5; k++) x.paper(0, 0);
        row(x, 0, 16, 1, 2, 3, 4, 5);
        due("onto itself, upward", x.move(0, 0, 0, 1, 4), 4);
        debtsAre(x, 0, 1, 1, 2, 3, 4);
        due("onto itself, downward", x.move(0, 1, 0, 0, 4), 4);
        debtsAre(x, 0, 1, 2, 3, 4, 4);
        row(x, 1, 16, 9, 9, 9, 9, 9);
        due("to another", x.move(0, 2, 1, 1, 3), 3);
        debtsAre(x, 1, 9, 3, 4, 4, 9);
        debtsAre(x, 0, 1, 2, 3, 4, 4);
        due("none", x.move(0, 5, 1, 5, 0), 0);
        due("all", x.move(0, 0, 1, 0, 5), 5);
        debtsAre(x, 1, 1, 2, 3, 4, 4);
        row(x, 1, 16, 9, 3, 4, 4, 9);
        x.sheet(2, 32, 5);
        refused("move(4, ..)", x, BEYOND, () -> x.move(4, 0, 0, 0, 0));
        refused("move(.., -1, ..)", x, BEYOND, () -> x.move(0, 0, -1, 0, 0));
        refused("missing and none such", x, BEYOND, () -> x.move(3, 0, 4, 0, 0));
        refused("from a missing one", x, NONE, () -> x.move(3, 0, 0, 0, -1));
        refused("to a missing one", x, NONE, () -> x.move(0, 0, 3, 0, -1));
        refused("unlike bits", x, KIND, () -> x.move(0, -1, 2, 0, 99));
        refused("n below 0", x, BEYOND, () -> x.move(0, 0, 1, 0, -1));
        refused("i below 0", x, BEYOND, () -> x.move(0, -1, 1, 0, 1));
        refused("j below 0", x, BEYOND, () -> x.move(0, 0, 1, -1, 1));
        refused("they don't stand there", x, BEYOND, () -> x.move(0, 3, 1, 0, 3));
        refused("nor there", x, BEYOND, () -> x.move(0, 0, 1, 3, 3));
        refused("sums that wrap", x, BEYOND, () -> x.move(0, Integer.MAX_VALUE, 1, 0, 2));
        refused("sums that wrap there", x, BEYOND, () -> x.move(0, 0, 1, 2, Integer.MAX_VALUE));
        debtsAre(x, 1, 9, 3, 4, 4, 9);
    }

    private static void debtsAre(CraneFolds x, int sheet, int... want) {
        due("debts(" + sheet + ")", x.debts(sheet), want.length);
        for (int i = 0; i < want.length; i++) due("number " + i, x.ofPaper(i, 2), want[i]);
    }

    private static void debts() {
        CraneFolds x = new CraneFolds();
        for (int k = 0; k < 3; k++) x.paper(0, 50);
        row(x, 0, 32, 9999, 0, 7, 8);
        due("no paper for the last", x.debts(0), 3);
        due("9999", x.ofPaper(0, 2), 9999);
        due("0", x.ofPaper(1, 2), 0);
        due("7", x.ofPaper(2, 2), 7);
        row(x, 1, 32, 4, 10000, 5);
        due("up to 10000", x.debts(1), 1);
        due("4", x.ofPaper(0, 2), 4);
        due("the next stays", x.ofPaper(1, 2), 0);
        due("and the one behind", x.ofPaper(2, 2), 7);
        row(x, 1, 16, -1, 3);
        due("up to -1", x.debts(1), 0);
        row(x, 1, 8, 1, 2);
        due("two numbers", x.debts(1), 2);
        due("it is no error", x.told(1) + x.told(2) + x.told(3), 0);
        x.sheet(1, 8, 0);
        due("an empty one", x.debts(1), 0);
        refused("a missing one", x, NONE, () -> x.debts(2));
        row(x, 3, 8, 66);
        due("the last sheet", x.debts(3), 1);
        due("66", x.ofPaper(0, 2), 66);
        refused("debts(4)", x, BEYOND, () -> x.debts(4));
        refused("debts(-1)", x, BEYOND, () -> x.debts(-1));
    }

    private static void judge() {
        CraneFolds x = new CraneFolds();
        x.sheet(0, 8, 0);
        due("none and none", x.judge(0), -1);
        folded(x, 0, 0, 127);
        folded(x, 0, 0, 8);
        due("the first lacks", x.judge(0), 0);
        row(x, 0, 8, 127, 8);
        due("all are", x.judge(0), -1);
        row(x, 0, 32, 127);
        due("one lacks", x.judge(0), 1);
        row(x, 0, 32, 127, 8, 0);
        due("one too many", x.judge(0), 2);
        row(x, 0, 32, 127, 9, 0);
        due("another", x.judge(0), 1);
        row(x, 0, 32, 127 + 256, 8);
        due("not by the lowest bits", x.judge(0), 0);
        refused("a missing one", x, NONE, () -> x.judge(1));
        refused("judge(4)", x, BEYOND, () -> x.judge(4));
        refused("judge(-1)", x, BEYOND, () -> x.judge(-1));
    }

    private static void image() {
        CraneFolds x = new CraneFolds();
        due("image()", x.image(), 1);
        due("image() again", x.image(), 2);
        x.restore();
        due("how often stays", x.image(), 3);
        x.paper(0, 5);
        due("in place of one ahead", x.image(), 4);
        x.paper(0, 6);
        x.restore();
        due("papers", x.count(0), 1);
    }

    private static void restore() {
        restoreOfPapers();
        CraneFolds x = new CraneFolds();
        refused("restore() of none", x, NONE, x::restore);
        gone(x, 14, 500, 8);
        x.wind(3);
        x.days(7);
        x.seed(77);
        x.tell(5);
        text(x, 0, "w*2");
        text(x, 1, "3");
        say(x, "o/5+2");
        x.image();
        String kept = seen(x);
        x.paper(25, 1);
        x.become(0, 60);
        x.wind(9);
        x.loose(9);
        x.tell(6);
        x.feed('7', 1);
        x.text(1);
        due("another going", text(x, 0, "1"), 1);
        due("another lapse", text(x, 1, "1"), 1);
        row(x, 0, 16, 8, 0);
        x.voice(0, 3, 4);
        int[] trace = new int[x.count(8)];
        for (int i = 0; i < trace.length; i++) trace[i] = x.trace(i);
        x.told(0);
        int told = x.told(1);
        due("restore()", x.restore(), 7);
        due("told stays", x.told(1), told);
        due("the trace stays", x.count(8), trace.length);
        for (int i = 0; i < trace.length; i++) due("trace " + i, x.trace(i), trace[i]);
        due("sheets stay", x.judge(0), 1);
        due("going is as it was", x.law(0, 4, 0, 0), 8);
        due("the tape is as it was", x.count(6), 5);
        due("its bytes, too", x.text(1), 1);
        due("they give", x.law(1, 50, 0, 0), 12);
        due("restore() again, as it stays", x.restore(), 7);
        due("lapse is as it was", x.law(1, 50, 0, 0), 3);
        due("one waits", x.count(7), 1);
        String now = seen(x);
        // Of what is seen, the trace alone is not the image's.
        if (!withoutTrace(kept, 0).equals(withoutTrace(now, trace.length))) {
            wrong++;
            System.out.println("restore: " + kept + " is " + now);
        }
    }

    private static void restoreOfPapers() {
        CraneFolds x = new CraneFolds();
        gone(x, 14, 500, 8);
        x.tell(x.owed(1));
        x.image();
        x.change(0, 1, 0);
        x.fold(0, 5);
        x.change(0, 0, 1);
        gone(x, 0, 70, 36);
        x.change(1, 2, 300);
        x.check();
        x.tell(-1);
        x.restore();
        int[] was = {1, 4, 500, 8, 1, 0, 4, 2, 8, 1};
        for (int k = 0; k < 10; k++) due("restored " + k, x.ofPaper(0, k), was[k]);
        due("what waits is as it was", x.check(), 0);
        due("a new paper", x.paper(33, 9), 1);
        int[] fresh = {3, 3, 9, 0, 0, 0, 8, 1, 6, 0};
        for (int k = 0; k < 10; k++) due("a new paper's " + k, x.ofPaper(1, k), fresh[k]);
    }

    private static String withoutTrace(String seen, int length) {
        String[] parts = seen.split(" ");
        StringBuilder rest = new StringBuilder();
        for (int i = 0; i < parts.length; i++)
            if (i != 8 && (i < 20 || i >= 20 + length)) rest.append(parts[i]).append(' ');
        return rest.toString();
    }

    private static void tell() {
        CraneFolds x = new CraneFolds();
        for (int k = 1; k <= 20; k++) due("tell", x.tell(BEYOND - k), k);
        refused("20 wait", x, FULL, () -> x.tell(0));
        due("count(7)", x.count(7), 20);
    }

    private static void check() {
        CraneFolds x = new CraneFolds();
        gone(x, 10, 100, 8);
        due("none wait", x.check(), 0);
        x.tell(99);
        x.tell(97);
        x.tell(94);
        due("all are so", x.check(), 0);
        due("none wait then", x.count(7), 0);
        due("it is only thought", x.count(1) + x.ofPaper(0, 5), 0);
        x.tell(99);
        x.tell(97);
        x.tell(95);
        x.tell(90);
        due("the third isn't", x.check(), 3);
        due("none wait then, too", x.count(7), 0);
        x.tell(100);
        due("the first isn't", x.check(), 1);
        text(x, 1, "d*10");
        x.change(0, 0, 200);
        x.tell(200);
        x.tell(190);
        x.tell(170);
        due("by days of 7", x.check(), 0);
        x.days(3);
        x.tell(140);
        x.tell(100);
        due("from day 3", x.check(), 0);
        for (int k = 1; k <= 20; k++) x.tell(x.owed(k));
        due("twenty", x.check(), 0);
        for (int k = 1; k <= 19; k++) x.tell(x.owed(k));
        x.tell(-1);
        due("the last isn't", x.check(), 20);
    }

    private static void count() {
        CraneFolds x = new CraneFolds();
        gone(x, 0, 10, 8);
        folded(x, 0, 20, 8);
        gone(x, 0, 30, 8);
        x.change(0, 2, 100);
        x.change(1, 2, 100);
        x.change(2, 2, 99);
        x.wind(6);
        say(x, "12");
        x.tell(1);
        x.voice(0, 1, 1);
        x.seed(BEYOND);
        int[] want = {3, 0, 6, 60, 5, 1, 2, 1, 2, BEYOND};
        for (int k = 0; k < 10; k++) due("count(" + k + ")", x.count(k), want[k]);
        due("no error", x.told(1), 0);
        refused("count(10)", x, BEYOND, () -> x.count(10));
        refused("count(-1)", x, BEYOND, () -> x.count(-1));
    }

    private static void told() {
        CraneFolds x = new CraneFolds();
        due("told(0)", x.told(0), BEYOND);
        due("told(6)", x.told(6), BEYOND);
        due("counted, too", x.told(1), 2);
        x.first(0);
        x.sheet(0, 8, -1);
        x.sheet(0, 8, -1);
        for (int k = 0; k < 9; k++) x.paper(0, 0);
        x.as(0, 1);
        due("told(2)", x.told(2), 1);
        due("told(3)", x.told(3), 2);
        due("told(4)", x.told(4), 1);
        due("told(5)", x.told(5), 1);
        refused("told(-1)", x, BEYOND, () -> x.told(-1));
    }
}
