/** Sentences of the document under "Terms" that name a boundary case, each by runs of its own; see Run. */
public final class TermsTest {
    // By kind and m: up to how thick, as how wide at most.
    private static final String[] STIFF = {
        "8888888888", "8765876587", "4444444444", "6666666666", "7654765476", "4545454545", "3333333333"};
    private static final String[] LIVES = {
        "4444444444", "4564564564", "5555555555", "3333333333", "4564564564", "5555555555", "6666666666"};
    // By how wide: a set of creases by which a strip is so.
    private static final int[] SET_OF_WIDTH = {-1, 127, 42, 36, 8, 4, 2, 1, 0};
    private static final String SIGNS = "|&<=>+-*/%";

    public static void main(String[] args) {
        errors();
        quotients();
        papers();
        flat();
        stiff();
        lives();
        goes();
        foldAndGo();
        aDay();
        tape();
        numbersAndNames();
        open();
        ints();
        truth();
        order();
        faults();
        faultsByByte();
        uses();
        draws();
        voices();
        sheets();
        Run.end();
    }

    private static void errors() {
        Run.of("LOW - 1 BEYOND", "wind(10)=-1000000001 wind(10)=BEYOND told(1)=2");
        Run.of("LOW - 2 NONE", "restore()=-1000000002 restore()=NONE told(2)=2");
        Run.of("LOW - 3 STATE", "sheet(0,8,-1)=-1000000003 sheet(0,8,-1)=STATE told(3)=2");
        Run.of("LOW - 4 FULL", "8*paper(0,0) paper(0,0)=-1000000004 paper(0,0)=FULL told(4)=2");
        Run.of("LOW - 5 KIND", "paper(0,0)=0 as(0,1)=-1000000005 as(0,1)=KIND told(5)=2");
        Run.of("any number is no ERROR, though below LOW",
            "paper(0,0) seed(-1000000002)=1 count(9)=-1000000002 seed(-1000000003)=-1000000002",
            "voice(0,0,-1000000001)=-1000000001 voice(0,0,-1000000005)=-1000000005",
            "told(1)=0 told(2)=0 told(3)=0 told(4)=0 told(5)=0");
    }

    private static void quotients() {
        Run.of("Quotients are cut (toward 0): above", "going(w/h) law(0,7,2,0)=3 law(0,9,10,0)=0 law(0,10,10,0)=1");
        Run.of("Quotients are cut (toward 0): below", "going(50+w/h) law(0,-7,2,0)=47 law(0,7,-2,0)=47",
            "law(0,-7,-2,0)=53");
        Run.of("Quotients are cut (toward 0): near 0", "going(50+w/h) law(0,-1,2,0)=50 law(0,-2,2,0)=49");
    }

    private static void papers() {
        Run.of("PAPERS 0, 1, .. (at most 8)", "paper(0,0)=0 paper(0,0)=1 paper(0,0)=2 paper(0,0)=3 paper(0,0)=4",
            "paper(0,0)=5 paper(0,0)=6 paper(0,0)=7 ofPaper(7,0)=0 ofPaper(8,0)=BEYOND paper(0,0)=FULL count(0)=8");
        Run.of("KINDS 0 to 6, a number m (0 to 9): the least", "paper(0,1)=0 ofPaper(0,0)=0 ofPaper(0,1)=0");
        Run.of("KINDS 0 to 6, a number m (0 to 9): the most", "paper(69,1)=0 ofPaper(0,0)=6 ofPaper(0,1)=9");
        Run.of("10 times the KIND, and m", "paper(9,1) paper(10,1) ofPaper(0,0)=0 ofPaper(0,1)=9 ofPaper(1,0)=1",
            "ofPaper(1,1)=0");
        Run.of("a DEBT (0 to 9999)", "paper(0,0)=0 paper(0,9999)=1 ofPaper(0,2)=0 ofPaper(1,2)=9999",
            "paper(0,-1)=BEYOND paper(0,10000)=BEYOND");
        for (int km = 0; km < 70; km++)
            Run.of("CREASES none, not UP, FAR 0 at first", "paper(" + km + ",5)=0 ofPaper(0,3)=0 ofPaper(0,4)=0",
            "ofPaper(0,5)=0");
        Run.of("DAY 0, WIND 0 at first", "count(1)=0 count(2)=0");
        Run.of("FAR (0 to 999)", "paper(0,0) change(0,2,999)=0 change(0,2,1000)=BEYOND change(0,2,0)=999",
            "change(0,2,-1)=BEYOND");
        Run.of("WIND (0 to 9)", "wind(9)=0 wind(10)=BEYOND wind(0)=9 wind(-1)=BEYOND");
        Run.of("1 BILL, 2 ORDER, 3 LETTER under PAPER; 4 under 1; 5 under 2; 6 under 3",
            "paper(11,0) as(0,0)=1 as(0,1)=1 as(0,2)=KIND as(0,3)=KIND as(0,4)=KIND as(0,5)=KIND as(0,6)=KIND",
            "paper(42,0) as(1,0)=2 as(1,1)=2 as(1,2)=KIND as(1,3)=KIND as(1,4)=2 as(1,5)=KIND as(1,6)=KIND",
            "paper(53,0) as(2,0)=3 as(2,1)=KIND as(2,2)=3 as(2,3)=KIND as(2,4)=KIND as(2,5)=3 as(2,6)=KIND",
            "paper(64,0) as(3,0)=4 as(3,1)=KIND as(3,2)=KIND as(3,3)=4 as(3,4)=KIND as(3,5)=KIND as(3,6)=4");
    }

    private static void flat() {
        Run.of("no CREASE: 8 places", "shape(0,0)=8 shape(0,1)=1");
        Run.of("every CREASE: one place", "shape(127,0)=1 shape(127,1)=8");
        for (int k = 0; k < 7; k++)
            Run.of("crease k is between cells k and k and 1",
                "shape(" + (1 << k) + ",0)=" + Math.max(k + 1, 7 - k) + " shape(" + (1 << k) + ",1)=2");
        for (int k = 1; k < 7; k++)
            Run.of("the first creases one behind the other: all that heap up lie at 0",
                "shape(" + ((1 << k) - 1) + ",0)=" + (8 - k) + " shape(" + ((1 << k) - 1) + ",1)=" + (k + 1));
        Run.of("the way turns twice: on beyond where it began", "shape(3,0)=6 shape(6,0)=6 shape(10,0)=4",
            "shape(65,0)=6");
        Run.of("places below 0 count, too", "shape(1,0)=7 shape(5,0)=5 shape(9,0)=4");
        Run.of("THICK: the most cells at one place, not those of one heap", "shape(65,1)=2 shape(17,1)=2",
            "shape(36,1)=3");
    }

    private static void stiff() {
        for (int km = 0; km < 70; km++) {
            int stiff = STIFF[km / 10].charAt(km % 10) - '0';
            // Creases 0, 1, .. one behind the other: 2, 3, .. thick, 7, 6, .. wide.
            StringBuilder calls = new StringBuilder("paper(" + km + ",5)=0 ofPaper(0,8)=" + stiff);
            for (int k = 0; k + 2 <= stiff; k++) calls.append(" fold(0," + k + ")=" + (7 - k));
            calls.append(" ofPaper(0,7)=" + stiff);
            if (stiff < 8) calls.append(" fold(0," + (stiff - 1) + ")=STATE");
            calls.append(" ofPaper(0,7)=" + stiff);
            Run.of("STIFF of kind and m " + km, calls.toString());
        }
    }

    private static void lives() {
        for (int km = 0; km < 70; km++) {
            int widest = LIVES[km / 10].charAt(km % 10) - '0';
            Run.of("LIVES of kind and m " + km,
                "folded(" + km + ",5," + SET_OF_WIDTH[widest] + ") ofPaper(0,6)=" + widest + " ofPaper(0,9)=1",
            "release(0)=5",
                "folded(" + km + ",6," + SET_OF_WIDTH[widest + 1] + ") ofPaper(1,6)=" + (widest + 1) + "",
            "ofPaper(1,9)=0 release(1)=STATE",
                "folded(" + km + ",7,127) ofPaper(2,6)=1 ofPaper(2,9)=1 release(2)=7");
            Run.of("(also only if it has a CREASE)", "paper(" + km + ",5) ofPaper(0,9)=0 release(0)=STATE");
        }
        Run.of("LIVES now, though UP", "folded(0,5,8) release(0)=5 ofPaper(0,9)=1");
    }

    private static void goes() {
        farBehindOne("PAPER: v", 0, 8, 7, 7);
        farBehindOne("BILL: twice that", 10, 8, 7, 14);
        farBehindOne("BILL: twice 0", 10, 8, 0, 0);
        farBehindOne("BILL: twice 99", 10, 8, 99, 198);
        farBehindOne("ORDER: v, and WIDE", 20, 8, 7, 11);
        farBehindOne("ORDER: 0, and WIDE", 20, 8, 0, 4);
        farBehindOne("ORDER: v, and WIDE 8", 20, 0, 99, 107);
        farBehindOne("LETTER: v, less THICK, 0 at least: v is less", 30, 8, 1, 0);
        farBehindOne("LETTER: v, less THICK, 0 at least: they are alike", 30, 8, 2, 0);
        farBehindOne("LETTER: v, less THICK, 0 at least: v is more", 30, 8, 3, 1);
        farBehindOne("LETTER: 0, less THICK 8", 30, 127, 0, 0);
        farBehindOne("DEMAND: as BILL", 40, 8, 99, 198);
        farBehindOne("STAMPED: half (cut) of 0", 60, 8, 0, 0);
        farBehindOne("STAMPED: half (cut) of 1", 60, 8, 1, 0);
        farBehindOne("STAMPED: half (cut) of 2", 60, 8, 2, 1);
        farBehindOne("STAMPED: half (cut) of 3", 60, 8, 3, 1);
        farBehindOne("STAMPED: half (cut) of 99", 60, 8, 99, 49);
        Run.of("SENTENCE: as ORDER, but 0 in DAYS that 5 divides", "flying(50,0,8) going(7)",
            "days(1) ofPaper(0,5)=0 days(1) ofPaper(0,5)=11 days(3) ofPaper(0,5)=44 days(1) ofPaper(0,5)=44",
            "days(1) ofPaper(0,5)=55 days(3) ofPaper(0,5)=88 count(1)=10 days(1) ofPaper(0,5)=88 days(1)",
            "ofPaper(0,5)=99");
        Run.of("ORDER goes in DAYS that 5 divides, too", "flying(20,0,8) going(7) days(6) ofPaper(0,5)=66");
        Run.of("(.., if UP)", "folded(0,9,8) going(7) lapse(1) days(1)=9 ofPaper(0,5)=0 ofPaper(0,2)=9");
        Run.of("one goes that does not live, if UP", "flying(0,9,0) days(1)=9 ofPaper(0,5)=1");
    }

    private static void farBehindOne(String sentence, int km, int set, int v, int far) {
        Run.of(sentence, "flying(" + km + ",0," + set + ") going(" + v + ") days(1)=0 ofPaper(0,5)=" + far);
    }

    private static void foldAndGo() {
        for (int k = 0; k < 7; k++)
            Run.of("it is one of its CREASES, if it was not, and isn't, if it was",
                "paper(0,0) ofPaper(0,3)=0 fold(0," + k + ") ofPaper(0,3)=" + (1 << k) + " fold(0," + k + ")=8",
            "ofPaper(0,3)=0");
        Run.of("To let one GO: it is UP", "folded(0,5,8) folded(0,6,8) release(1)=6 ofPaper(0,4)=0 ofPaper(1,4)=1",
            "count(4)=2");
    }

    private static void aDay() {
        Run.of("FAR is more by GOES (held): just to 999", "flying(0,0,8) going(1) change(0,2,998) days(1)",
            "ofPaper(0,5)=999");
        Run.of("FAR is more by GOES (held): at 999", "flying(0,0,8) going(1) change(0,2,999) days(1)",
            "ofPaper(0,5)=999");
        Run.of("FAR is more by GOES (held): far beyond 999", "flying(10,0,8) going(99) change(0,2,802) days(1)",
            "ofPaper(0,5)=999");
        Run.of("FAR is more by GOES (held): not yet", "flying(10,0,8) going(99) change(0,2,800) days(1)",
            "ofPaper(0,5)=998");
        Run.of("DEBT is less, 0 at least: more than that", "flying(0,8,8) lapse(7) days(1)=1 ofPaper(0,2)=1");
        Run.of("DEBT is less, 0 at least: just that", "flying(0,7,8) lapse(7) days(1)=0 ofPaper(0,2)=0");
        Run.of("DEBT is less, 0 at least: less than that", "flying(0,6,8) lapse(7) days(1)=0 ofPaper(0,2)=0");
        Run.of("DEBT is less, 0 at least: 0", "flying(0,0,8) lapse(999) days(1)=0 ofPaper(0,2)=0");
        Run.of("DEBT is less, by 999 at most", "flying(0,9999,8) lapse(9999) days(1)=9000");
        Run.of("GONE, if FAR is 100 or more: 99", "flying(0,0,8) change(0,2,99) count(5)=0");
        Run.of("GONE, if FAR is 100 or more: 100", "flying(0,0,8) change(0,2,100) count(5)=1");
        Run.of("GONE, if FAR is 100 or more: 999", "flying(0,0,8) change(0,2,999) count(5)=1");
        Run.of("GONE, if UP", "folded(0,0,8) change(0,2,999) count(5)=0 change(0,1,1) count(5)=1 change(0,1,0)",
            "count(5)=0");
        Run.of("DAY is 1 more", "days(1) count(1)=1 days(1) count(1)=2");
        Run.of("DAY is 1 more behind all else: d is 0 on DAY 0", "flying(0,90,8) lapse(d*10+1) days(1)=89",
            "days(1)=78");
    }

    private static void tape() {
        Run.of("THE TAPE (bytes, at most 50): 50", "6*feed(0,8) count(6)=48 feed(0,2)=50 count(6)=50");
        Run.of("THE TAPE (bytes, at most 50): 51", "6*feed(0,8) feed(0,3)=FULL count(6)=48 feed(0,2)=50",
            "feed(0,1)=FULL");
        Run.of("THE TAPE is empty at first", "count(6)=0 text(0)=-10");
        Run.of("a TEXT of 50 bytes", "going(1+1+1+1+1+1+1+1+1+1+1+1+1+1+1+1+1+1+1+1+1+1+1+0010)=1 law(0,0,0,0)=33");
    }

    private static void numbersAndNames() {
        Run.of("a TEXT of 50 bytes, each of them a sign, a NUMBER or a NAME",
            "going(!w+1+1+1+1+1+1+1+1+1+1+1+1+1+1+1+1+1+1+1+1+1+1+1+h)=1 law(0,0,0,0)=24 law(0,5,9,0)=32");
        Run.of("a NUMBER of 1 to 4 digits: 1", "going(7)=1 law(0,0,0,0)=7");
        Run.of("a NUMBER of 1 to 4 digits: 4", "going(9999-9998)=1 law(0,0,0,0)=1 going(0007)=1 law(0,0,0,0)=7");
        Run.of("a NUMBER of 1 to 4 digits: 5", "going(10000)=-14 going(00001)=-14 going(w+12345)=-16",
            "going((12345))=-15");
        Run.of("a NUMBER of 1 to 4 digits: the next has 4 again", "going(1234-1233+5678/5678)=1 law(0,0,0,0)=2");
        Run.of("a NUMBER of 1 to 4 digits: none", "going(+)=-10 going(())=-11");
        Run.of("NAMES w, h, b of GOING", "going(w*9+h*3+b)=1 law(0,1,2,3)=18 going(o)=-10 going(f)=-10 going(d)=-10");
        Run.of("NAMES o, f, d of LAPSE", "lapse(o*9+f*3+d)=1 law(1,1,2,3)=18 lapse(w)=-10 lapse(h)=-10 lapse(b)=-10");
        Run.of("NAMES are one byte", "going(wh)=-11 going(w1)=-11 going(1w)=-11 going(W)=-10");
        Run.of("No blanks: ahead", "feed(32,1) say(w) text(0)=-10");
        Run.of("No blanks: inside", "say(w) feed(32,1) say(+h) text(0)=-11");
        Run.of("No blanks: behind", "say(w) feed(32,1) text(0)=-11");
        Run.of("No blanks: within a NUMBER", "say(1) feed(32,1) say(2) text(0)=-11");
    }

    private static void open() {
        Run.of("At most 5 of ! are open at once", "going(!!!!!w)=1 law(0,0,0,0)=1 law(0,7,0,0)=0 going(!!!!!!w)=-15");
        Run.of("At most 5 of ( are open at once", "going(((((w)))))=1 law(0,7,0,0)=7 going(((((((w))))))=-15");
        Run.of("At most 5 of ! and ( together", "going(!(!(!w)))=1 law(0,7,0,0)=0 going(!(!(!(w))))=-15",
            "going((!(!(!w))))=-15");
        Run.of("those that are closed are open no more: (", "going((w)+(w)+(w)+(w)+(w)+(w)+((((w)))))=1",
            "law(0,7,0,0)=49");
        Run.of("those that are closed are open no more: !", "going(!w+!w+!w+!w+!w+!w+!!!!!w)=1 law(0,0,0,0)=7");
        Run.of("those that are closed are open no more: !(..)", "going(!(!(w))+!(!(!w)))=1 law(0,7,0,0)=1",
            "law(0,0,0,0)=1");
        Run.of("a ! closes with its Q, a ( with its )", "going((((!w+!!w))))=1 going((((!w+!!!w))))=-18");
        Run.of("one more is no TEXT even where it could be closed", "going(((((((w))))))=-15 count(6)=0");
    }

    private static void ints() {
        Run.of("Ints that wrap: +", "going(w+1<0) law(0,MAX,0,0)=1 going(w+h=0) law(0,MIN,MIN,0)=1");
        Run.of("Ints that wrap: -", "going(w-1>0) law(0,MIN,0,0)=1 going(0-w=w) law(0,MIN,0,0)=1");
        Run.of("Ints that wrap: *", "going(w*h) law(0,65536,65536,0)=0 law(0,65536,65537,0)=99",
            "law(0,46341,46341,0)=0");
        Run.of("Ints that wrap: numbers alone", "going(9999*9999*9999<0)=1 law(0,0,0,0)=1 going(9999*9999*21>0)=1",
            "law(0,0,0,0)=1 going(9999*9999*22<0)=1 law(0,0,0,0)=1");
        Run.of("Ints that wrap: /", "going(w/h=w) law(0,MIN,-1,0)=1 law(0,MAX,-1,0)=0");
        Run.of("Ints that wrap: the rest of what wraps", "going(50+w%h) law(0,MIN,-1,0)=50");
        Run.of("Ints that wrap: without a TEXT", "law(0,MIN,0,0)=0 law(0,-2147483639,0,0)=0",
            "law(0,-2147483638,0,0)=99 law(0,0,0,MAX)=0");
        Run.of("/ by 0 is 0", "going(5+w/h) law(0,7,0,0)=5 law(0,0,0,0)=5 law(0,MIN,0,0)=5");
        Run.of("% by 0 is 0", "going(5+w%h) law(0,7,0,0)=5 law(0,0,0,0)=5 law(0,MIN,0,0)=5");
        Run.of("% the rest that it leaves", "going(50+w%h) law(0,7,4,0)=53 law(0,-7,4,0)=47 law(0,7,-4,0)=53",
            "law(0,-7,-4,0)=47 law(0,8,4,0)=50");
    }

    private static void truth() {
        Run.of("what is not 0 being true: &", "going(w&h) law(0,5,9,0)=1 law(0,5,0,0)=0 law(0,0,9,0)=0",
            "law(0,0,0,0)=0 law(0,-1,MIN,0)=1");
        Run.of("what is not 0 being true: |", "going(w|h) law(0,5,9,0)=1 law(0,5,0,0)=1 law(0,0,9,0)=1",
            "law(0,0,0,0)=0 law(0,-1,0,0)=1");
        Run.of("what is not 0 being true: !", "going(!w) law(0,0,0,0)=1 law(0,1,0,0)=0 law(0,-1,0,0)=0",
            "law(0,MIN,0,0)=0");
        Run.of("& is not of bits", "going(w&h) law(0,1,2,0)=1 law(0,4,8,0)=1");
        Run.of("<: below, alike, above", "going(w<h) law(0,1,2,0)=1 law(0,2,2,0)=0 law(0,3,2,0)=0",
            "law(0,MIN,MAX,0)=1 law(0,MAX,MIN,0)=0");
        Run.of("=: below, alike, above", "going(w=h) law(0,1,2,0)=0 law(0,2,2,0)=1 law(0,3,2,0)=0",
            "law(0,300,300,0)=1");
        Run.of(">: below, alike, above", "going(w>h) law(0,1,2,0)=0 law(0,2,2,0)=0 law(0,3,2,0)=1",
            "law(0,MIN,MAX,0)=0 law(0,MAX,MIN,0)=1");
        for (String sign : new String[] {"|", "&", "<", "=", ">"})
            Run.of("| & < = > ! are 1 or 0: " + sign, "going(5+(w" + sign + "h))",
                "law(0,0,0,0)=" + ("=".equals(sign) ? 6 : 5),
                "law(0,7,9,0)=" + ("=>".contains(sign) ? 5 : 6), "law(0,9,7,0)=" + ("=<".contains(sign) ? 5 : 6));
        Run.of("| & < = > ! are 1 or 0: !", "going(5+!w) law(0,0,0,0)=6 law(0,7,0,0)=5 law(0,-7,0,0)=5");
        Run.of("all is worked out", "going(1|w/0)=1 law(0,7,0,0)=1 going(0&w%0)=1 law(0,7,0,0)=0");
    }

    private static void order() {
        Run.of("- from the left", "going(w-h-b) law(0,9,3,2)=4");
        Run.of("/ from the left", "going(w/h/b) law(0,80,4,2)=10");
        Run.of("% from the left", "going(w%h%b) law(0,17,10,4)=3 going(w*h%b) law(0,7,3,4)=1 going(w%h*b)",
            "law(0,7,4,3)=9");
        Run.of("* ahead of +", "going(w+h*b) law(0,1,2,3)=7");
        Run.of("+ ahead of <", "going(w+h<b) law(0,1,2,4)=1 law(0,1,2,3)=0");
        Run.of("< ahead of &", "going(w&h<b) law(0,5,1,2)=1 law(0,0,1,2)=0");
        Run.of("& ahead of |", "going(w|h&b) law(0,1,0,0)=1 law(0,0,1,0)=0");
        Run.of("! ahead of all", "going(!w+h) law(0,0,5,0)=6 going(!w*h) law(0,0,5,0)=5 going(!w=h) law(0,5,0,0)=1");
        Run.of("( T ) as one", "going((w|h)*b) law(0,1,0,9)=9 going(w-(h-b)) law(0,9,3,2)=8");
        Run.of("B: S, or S < S: one sign alone", "going(w<h<b)=-13 going(w=h=b)=-13 going(w>h<b)=-13",
            "going(w<h>b)=-13 going(w<h=b)=-13");
        Run.of("A: B { & B }: the next B has its own", "going(w<h&h<b) law(0,1,2,3)=1 law(0,1,2,2)=0",
            "going(w<h|h=b) law(0,5,2,2)=1");
        Run.of("( T ): what is inside has its own", "going((w<h)<b) law(0,1,2,3)=1 law(0,1,2,1)=0");
    }

    private static void faults() {
        Run.of("FAULT: how many there are, if it ends too early: none are", "text(0)=-10 text(1)=-10");
        Run.of("FAULT: how many there are, if it ends too early", "going(w+)=-12 going(!)=-11 going(()=-11",
            "going((w)=-12 going(w<)=-12 going(w&)=-12 going(w|)=-12 going(w*)=-12");
        Run.of("FAULT: how many there are, if it ends too early: 50",
            "going(1+1+1+1+1+1+1+1+1+1+1+1+1+1+1+1+1+1+1+1+1+1+1+1+1+)=-60");
        Run.of("FAULT: the first byte with which no TEXT goes on: the last of 50",
            "going(1+1+1+1+1+1+1+1+1+1+1+1+1+1+1+1+1+1+1+1+1+1+1+1+1))=-59");
        Run.of("FAULT: the first byte with which no TEXT goes on: the first", "going(x+w)=-10 going()w)=-10",
            "going(-1)=-10");
        Run.of("FAULT: the first one alone", "going(w+x+y)=-12 going(w)))=-11 going((w))+w)=-13");
        Run.of("FAULT: the first byte, where a Q should begin", "going(w+*h)=-12 going(w++h)=-12 going(!+w)=-11",
            "going((+w))=-11 going(())=-11 going(w&&h)=-12 going(w==h)=-12");
        Run.of("FAULT: the first byte behind a Q", "going(w!h)=-11 going(w(h))=-11 going((w)(h))=-13",
            "going((w)h)=-13 going((w)1)=-13 going(wh)=-11");
        Run.of("FAULT is no ERROR", "going(w+)=-12 told(1)=0 told(2)=0 told(3)=0 told(4)=0 told(5)=0");
    }

    /** Each byte behind some that a TEXT could begin with: whether a TEXT goes on with it, and whether it is one then. */
    private static void faultsByByte() {
        byByte("", "whb0123456789", "!(");
        byByte("w", "", SIGNS);
        byByte("w+", "whb0123456789", "!(");
        byByte("(w", ")", SIGNS);
        byByte("(w)", "", SIGNS);
        byByte("w<h", "", "|&+-*/%");
        byByte("w<h+b", "", "|&+-*/%");
        byByte("w<h&b", "", SIGNS);
        byByte("9", "0123456789", SIGNS);
        byByte("999", "0123456789", SIGNS);
        byByte("9999", "", SIGNS);
        byByte("!!!!", "whb0123456789", "!(");
        byByte("!!!!!", "whb0123456789", "");
        byByte("!((((", "", "whb0123456789");
        byByte("!w", "", SIGNS);
    }

    private static void byByte(String begun, String ends, String goesOn) {
        for (int from = 0; from < 256; from += 64) {
            StringBuilder calls = new StringBuilder();
            for (int c = from; c < from + 64; c++) {
                boolean whole = ends.indexOf(c) >= 0;
                boolean more = goesOn.indexOf(c) >= 0;
                int due = whole ? 1 : more ? -10 - begun.length() - 1 : -10 - begun.length();
                // The first bytes by one word, as an object is good for so many calls.
                long word = 0;
                for (int i = 0; i < begun.length(); i++) word |= (long) begun.charAt(i) << 8 * i;
                word |= (long) c << 8 * begun.length();
                calls.append("feed(" + word + "," + (begun.length() + 1) + ") text(0)=" + due + " ");
            }
            Run.of("FAULT: behind '" + begun + "' each byte from " + from, calls.toString());
        }
    }

    private static void uses() {
        Run.of("GOING: held within 0 to 99: above", "going(w) law(0,98,0,0)=98 law(0,99,0,0)=99 law(0,100,0,0)=99",
            "law(0,MAX,0,0)=99");
        Run.of("GOING: held within 0 to 99: below", "going(w) law(0,1,0,0)=1 law(0,0,0,0)=0 law(0,-1,0,0)=0",
            "law(0,MIN,0,0)=0");
        Run.of("GOING: without a TEXT 9-w+b", "law(0,9,5,0)=0 law(0,8,5,0)=1 law(0,10,5,0)=0 law(0,1,5,9)=17",
            "law(0,0,5,90)=99 law(0,0,5,91)=99 law(0,0,5,89)=98");
        Run.of("LAPSE: held within 0 to 999: above", "lapse(o) law(1,998,0,0)=998 law(1,999,0,0)=999",
            "law(1,1000,0,0)=999 law(1,MAX,0,0)=999");
        Run.of("LAPSE: held within 0 to 999: below", "lapse(o) law(1,1,0,0)=1 law(1,0,0,0)=0 law(1,-1,0,0)=0",
            "law(1,MIN,0,0)=0");
        Run.of("LAPSE: without a TEXT f/10", "law(1,5,0,5)=0 law(1,5,9,5)=0 law(1,5,10,5)=1 law(1,5,19,5)=1",
            "law(1,5,9989,5)=998 law(1,5,9999,5)=999 law(1,5,10000,5)=999 law(1,5,-10,5)=0");
        Run.of("LAPSE: f FAR (as it is more then): from 9 by 1", "flying(0,50,8) going(1) change(0,2,9) days(1)=49");
        Run.of("LAPSE: f FAR (as it is more then): held at 999", "flying(0,5000,8) going(99) change(0,2,998)",
            "lapse(f) days(1)=4001");
        Run.of("LAPSE: o DEBT, as it was ahead of it", "flying(0,50,8) lapse(o-1) days(1)=1 days(1)=1",
            "change(0,0,9999)=1 lapse(o) days(1)=9000");
        Run.of("LAPSE: d the rest of DAY by 7: 6, 0, 1", "flying(0,9000,8) lapse(d*10+1) days(6)=8844 days(1)=8783",
            "count(1)=7 days(1)=8782 days(1)=8771");
        Run.of("GOING: w WIDE, h THICK, b WIND", "flying(0,0,7) wind(6) going(w*10+h) days(1) ofPaper(0,5)=54",
            "change(0,2,0) going(b*10) days(1) ofPaper(0,5)=60");
    }

    private static void draws() {
        Run.of("z is told (1 at first)", "count(9)=1 loose(1) count(9)=1103527590 count(2)=4");
        Run.of("z * 1103515245 + 12345 (an int): from 0", "seed(0) loose(1) count(9)=12345 count(2)=8");
        Run.of("z * 1103515245 + 12345 (an int): from the most", "seed(MAX)=1 loose(1) count(9)=1043980748",
            "count(2)=9");
        Run.of("gives z >>> 8: z below 0", "seed(-1)=1 loose(1) count(9)=-1103502900 count(2)=7");
        Run.of("z * 1103515245 + 12345 (an int): from the least", "seed(MIN)=1 loose(1) count(9)=-2147471303",
            "count(2)=6");
        Run.of("WIND is its rest by 10; then a DAY", "flying(0,0,8) loose(1) count(2)=4 ofPaper(0,5)=9 count(1)=1");
    }

    private static void voices() {
        Run.of("ints that go round: 10", "2*paper(0,0) voice(1,0,MAX)=MIN voice(1,0,-1)=0");
        Run.of("ints that go round: 11", "paper(0,0) voice(0,1,MAX)=-2 voice(0,1,MIN)=0 voice(0,1,1073741824)=MIN");
        Run.of("ints that go round: 12", "paper(9,0) voice(0,2,MIN)=2147483639 voice(0,2,-2147483639)=MIN");
        Run.of("ints that go round: 13", "paper(9,0) voice(0,3,MIN)=2147483639");
        Run.of("ints that go round: 20", "paper(10,0) voice(0,0,MAX)=2147483645 voice(0,0,MIN)=MIN");
        Run.of("ints that go round: 30", "paper(20,0) voice(0,1,1073741824)=MAX");
        Run.of("ints that go round: 40", "paper(30,0) voice(0,2,MIN)=MIN voice(0,2,MAX)=-2147483647");
        Run.of("ints that go round: 50", "paper(40,0) voice(0,3,MIN)=2147483642");
        Run.of("ints that go round: 60", "paper(50,0) voice(0,1,MAX)=-1");
        Run.of("ints that go round: 70, 71", "paper(60,0) voice(0,2,MIN)=MIN voice(0,3,MIN)=MIN");
        bodies();
        Run.of("THE TRACE: empty at first", "count(8)=0 trace(0)=NONE");
        Run.of("THE TRACE: of the latest voice()", "paper(60,0) voice(0,3,1) count(8)=9 voice(0,0,1) count(8)=1",
            "trace(0)=10 trace(1)=NONE");
        Run.of("THE TRACE: as they began (what stands left is worked out first)",
            "paper(60,0) voice(0,3,1) trace(0)=71 trace(1)=11 trace(2)=10 trace(3)=13 trace(4)=11 trace(5)=10",
            "trace(6)=70",
            "trace(7)=40 trace(8)=12 trace(9)=NONE");
        // No voice has more than 9 bodies, so that 40 can't be reached; the longest are these.
        int[] most = {4, 5, 6, 5, 8, 7, 9};
        for (int kind = 0; kind < 7; kind++)
            for (int act = 0; act < 4; act++)
                Run.of("THE TRACE: the first 40", "paper(" + 10 * kind + ",0) voice(0," + act + ",1)",
                    act == 3 ? "count(8)=" + most[kind] + " trace(" + most[kind] + ")=NONE" : "trace(0)",
            "trace(" + most[kind] + ")=NONE");
    }

    /** Each voice of each kind, x being 10, m 4, and n as the kind. */
    private static void bodies() {
        int[][] said = {
            {10, 20, 6, 20 ^ 6}, {33, 66, 6, 66 ^ 6}, {12, 24 + 3, 6, 27 ^ 6}, {13, 26, -6, 26 ^ -6},
            {42, 84, 6, (84 ^ 6) - 18}, {15, 32 + 3, 6, 35 ^ 6}, {16, 32, -6 ^ 6, 32 - (32 ^ (-6 ^ 6))}};
        String[][] traces = {
            {"10", "11 10", "12", "13 11 10 12"},
            {"20 10", "11 20 10", "12", "13 11 20 10 12"},
            {"10", "30 11 10 12", "12", "13 30 11 10 12 12"},
            {"10", "11 10", "40 12", "13 11 10 40 12"},
            {"20 10", "11 20 10", "12", "50 13 11 20 10 12 20 10"},
            {"10", "60 30 11 10 12", "12", "13 60 30 11 10 12 12"},
            {"10", "11 10", "70 40 12", "71 11 10 13 11 10 70 40 12"}};
        for (int kind = 0; kind < 7; kind++)
            for (int act = 0; act < 4; act++) {
                String[] trace = traces[kind][act].split(" ");
                StringBuilder calls = new StringBuilder();
                for (int k = 0; k <= kind; k++) calls.append("paper(" + (10 * k + 4) + ",0) ");
                calls.append("voice(" + kind + "," + act + ",10)=" + said[kind][act] + " count(8)=" + trace.length);
                for (int i = 0; i < trace.length; i++) calls.append(" trace(" + i + ")=" + trace[i]);
                calls.append(" trace(" + trace.length + ")=NONE");
                Run.of("the BODY of its KIND, or of the next KIND above that has one", calls.toString());
            }
        Run.of("^ and - where bits meet", "4*paper(0,0) paper(33,0) paper(67,0) voice(4,2,10)=-7 voice(4,3,10)=-27",
            "voice(5,2,10)=-8 voice(5,3,9)=53");
    }

    private static void sheets() {
        Run.of("SHEETS 0 .. 3 are missing at first", "judge(0)=NONE judge(1)=NONE judge(2)=NONE judge(3)=NONE",
            "judge(4)=BEYOND judge(-1)=BEYOND");
        Run.of("rows of at most 40 numbers", "sheet(0,8,40)=1 put(0,39,1)=1 put(0,40,1)=BEYOND",
            "sheet(0,8,41)=BEYOND put(0,39,1)=1");
        Run.of("rows of no numbers are not missing", "sheet(0,8,0)=1 judge(0)=-1 put(0,0,0)=BEYOND debts(0)=0");
        Run.of("rows of 8 bits", "paper(0,5) row(0,8,127) debts(0)=1 ofPaper(0,2)=127 row(0,8,256) debts(0)=1",
            "ofPaper(0,2)=0");
        Run.of("rows of 8 bits: the first bit is the sign", "paper(0,5) row(0,8,128) debts(0)=0 row(0,8,255)",
            "debts(0)=0 ofPaper(0,2)=5 row(0,8,-1) debts(0)=0");
        Run.of("rows of 16 bits", "paper(0,5) row(0,16,9999) debts(0)=1 ofPaper(0,2)=9999 row(0,16,10000)",
            "debts(0)=0 row(0,16,65536) debts(0)=1 ofPaper(0,2)=0");
        Run.of("rows of 32 bits", "paper(0,5) row(0,32,65536) debts(0)=0 row(0,32,MIN) debts(0)=0 row(0,32,MAX)",
            "debts(0)=0 ofPaper(0,2)=5 row(0,32,9999) debts(0)=1");
    }
}
