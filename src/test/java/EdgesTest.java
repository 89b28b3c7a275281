/** Sentences of the promises that name a boundary case, promise by promise, each by runs of its own; see Run. */
public final class EdgesTest {
    private static final String BEYOND = "BEYOND";
    private static final String NONE = "NONE";
    /** A little of all there is, so that a refused call has something to change. */
    private static final String SOME =
        "flying(14,500,8) folded(0,70,36) wind(3) days(7) seed(77) lapse(o/9+d) going(9+b-h) voice(0,3,4) "
        + "row(0,16,8,36) row(1,8,1,2,3) row(2,32,24,0,3) tell(5) say(w*2) image() change(1,2,50) say(+1) tell(6) ";

    public static void main(String[] args) {
        newObject();
        paper();
        ofPaper();
        change();
        fold();
        release();
        wind();
        become();
        as();
        feed();
        text();
        law();
        days();
        loose();
        shape();
        least();
        shapes();
        way();
        open();
        alike();
        then();
        first();
        best();
        fits();
        owed();
        debtor();
        odds();
        seed();
        voice();
        trace();
        sheet();
        put();
        move();
        debts();
        judge();
        image();
        restore();
        tell();
        check();
        count();
        told();
        amongMuch();
        Run.end();
    }

    private static void newObject() {
        Run.of("1: All as at first", "count(1)=0 count(2)=0 count(3)=0 count(4)=0 count(5)=0 count(6)=0 count(7)=0",
            "count(8)=0 count(9)=1");
        Run.of("1: no PAPERS", "count(0)=0 ofPaper(0,0)=BEYOND paper(0,0)=0");
        Run.of("1: no TEXTS", "law(0,3,9,2)=8 law(1,9,25,6)=2");
        Run.of("1: no SHEETS, no TRACE, no IMAGE, none wait", "judge(0)=NONE judge(3)=NONE trace(0)=NONE",
            "restore()=NONE check()=0 image()=1");
        Run.of("1: nothing told", "told(1)=0 told(2)=0 told(3)=0 told(4)=0 told(5)=0");
    }

    private static void paper() {
        Run.bounds("2: km", SOME, "paper(@,5)", 0, 69, BEYOND);
        Run.bounds("2: a DEBT", SOME, "paper(5,@)", 0, 9999, BEYOND);
        Run.of("2: its number: the last", "7*paper(0,1) paper(0,1)=7 paper(0,1)=FULL");
        Run.of("2: BEYOND ahead of FULL", "8*paper(0,1) paper(70,1)=BEYOND paper(0,10000)=BEYOND",
            "paper(-1,-1)=BEYOND paper(69,9999)=FULL");
    }

    private static void ofPaper() {
        Run.bounds("3: a PAPER", SOME, "ofPaper(@,0)", 0, 1, BEYOND);
        Run.bounds("3: what", SOME, "ofPaper(0,@)", 0, 9, BEYOND);
        Run.bounds("3: a PAPER of 8", "8*paper(0,0)", "ofPaper(@,9)", 0, 7, BEYOND);
        Run.of("3: of none", "ofPaper(0,0)=BEYOND ofPaper(0,10)=BEYOND told(1)=2");
        Run.of("3: each of one", "flying(27,44,36) change(0,2,77) ofPaper(0,0)=2 ofPaper(0,1)=7 ofPaper(0,2)=44",
            "ofPaper(0,3)=36",
            "ofPaper(0,4)=1 ofPaper(0,5)=77 ofPaper(0,6)=3 ofPaper(0,7)=3 ofPaper(0,8)=4 ofPaper(0,9)=1");
    }

    private static void change() {
        Run.bounds("4: a PAPER", SOME, "change(@,0,0)", 0, 1, BEYOND);
        Run.bounds("4: what", SOME, "change(0,@,0)", 0, 2, BEYOND);
        Run.bounds("4: DEBT", SOME, "change(0,0,@)", 0, 9999, BEYOND);
        Run.bounds("4: UP", SOME, "change(0,1,@)", 0, 1, BEYOND);
        Run.bounds("4: FAR", SOME, "change(0,2,@)", 0, 999, BEYOND);
        Run.of("4: becomes v: what it was", "paper(0,7) change(0,0,9999)=7 change(0,0,0)=9999 change(0,0,0)=0",
            "ofPaper(0,2)=0",
            "change(0,1,1)=0 change(0,1,1)=1 ofPaper(0,4)=1 change(0,1,0)=1 change(0,2,999)=0 change(0,2,0)=999",
            "ofPaper(0,5)=0");
        Run.of("4: UP, though it does not live", "paper(0,7) ofPaper(0,9)=0 change(0,1,1)=0 ofPaper(0,4)=1");
        Run.of("4: one alone", "3*paper(0,7) change(1,0,1) change(1,1,1) change(1,2,1) ofPaper(0,2)=7",
            "ofPaper(2,2)=7 count(4)=2 ofPaper(0,5)=0 ofPaper(2,5)=0");
    }

    private static void fold() {
        Run.bounds("5: a PAPER", "2*paper(0,3)", "fold(@,3)", 0, 1, BEYOND);
        Run.bounds("5: a crease (0 to 6)", "2*paper(0,3)", "fold(1,@)", 0, 6, BEYOND);
        Run.of("5: how WIDE it is then: the most and the least", "paper(0,0) fold(0,0)=7 fold(0,0)=8 fold(0,0)=7",
            "fold(0,1)=6 fold(0,2)=5",
            "fold(0,3)=4 fold(0,4)=3 fold(0,5)=2 fold(0,6)=1 ofPaper(0,3)=127");
        Run.of("5: STATE: it is UP", "folded(0,5,8) release(0)=5 fold(0,0)=STATE fold(0,3)=STATE ofPaper(0,3)=8",
            "change(0,1,0) fold(0,3)=8");
        Run.of("5: STATE: would be THICKER than STIFF: by 1", "paper(60,0) fold(0,0)=7 fold(0,1)=6 ofPaper(0,7)=3",
            "fold(0,2)=STATE ofPaper(0,3)=3");
        Run.of("5: as THICK as STIFF is fine", "paper(20,0) fold(0,0)=7 fold(0,1)=6 fold(0,2)=5 ofPaper(0,7)=4",
            "fold(0,3)=STATE ofPaper(0,3)=7");
        Run.of("5: it is THICKER now: back to STIFF is fine", "folded(60,0,7) ofPaper(0,7)=4 ofPaper(0,8)=3",
            "fold(0,2)=6 ofPaper(0,7)=3");
        Run.of("5: it is THICKER now: less THICK, but too THICK still", "folded(60,0,15) ofPaper(0,7)=5",
            "fold(0,3)=STATE fold(0,0)=STATE ofPaper(0,3)=15");
        Run.of("5: BEYOND ahead of STATE", "folded(0,5,8) change(0,1,1) fold(0,7)=BEYOND fold(0,-1)=BEYOND",
            "fold(1,0)=BEYOND fold(0,6)=STATE");
    }

    private static void release() {
        Run.bounds("6: a PAPER", "folded(0,3,8) folded(0,4,8)", "release(@)", 0, 1, BEYOND);
        Run.of("6: its DEBT: the least and the most", "folded(0,0,8) folded(0,9999,8) release(0)=0 release(1)=9999",
            "count(4)=3");
        Run.of("6: STATE: it is UP", "folded(0,5,8) release(0)=5 release(0)=STATE count(4)=1");
        Run.of("6: STATE: it is UP, though made so", "folded(0,5,8) change(0,1,1) release(0)=STATE");
        Run.of("6: STATE: doesn't LIVE", "folded(0,5,4) ofPaper(0,6)=5 release(0)=STATE count(4)=0 folded(0,5,8)",
            "ofPaper(1,6)=4 release(1)=5");
        Run.of("6: STATE: doesn't LIVE as what it is now", "folded(20,5,4) release(0)=5 change(0,1,0) become(0,0)",
            "release(0)=STATE");
        Run.of("6: it may be THICKER than STIFF", "folded(60,5,127) ofPaper(0,7)=8 ofPaper(0,8)=3 release(0)=5");
        Run.of("6: of none", "release(0)=BEYOND");
    }

    private static void wind() {
        Run.bounds("7: WIND", SOME, "wind(@)", 0, 9, BEYOND);
        Run.of("7: what it was", "wind(9)=0 wind(9)=9 wind(0)=9 wind(10)=BEYOND wind(4)=0 count(2)=4");
    }

    private static void become() {
        Run.bounds("8: a PAPER", SOME, "become(@,0)", 0, 1, BEYOND);
        Run.bounds("8: km", SOME, "become(0,@)", 0, 69, BEYOND);
        Run.of("8: the KIND that it was", "paper(69,0) become(0,0)=6 become(0,69)=0 become(0,35)=6 become(0,35)=3",
            "ofPaper(0,0)=3 ofPaper(0,1)=5");
        Run.of("8: all else stays, though it be too THICK", "flying(0,44,127) change(0,2,9) become(0,60)=0",
            "ofPaper(0,2)=44 ofPaper(0,3)=127",
            "ofPaper(0,4)=1 ofPaper(0,5)=9 ofPaper(0,7)=8 ofPaper(0,8)=3");
        Run.of("8: one that is UP and does not live then stays UP", "folded(20,5,4) release(0)=5 become(0,30)=2",
            "ofPaper(0,9)=0 ofPaper(0,4)=1");
    }

    private static void as() {
        Run.bounds("9: a PAPER", "2*paper(0,3)", "as(@,0)", 0, 1, BEYOND);
        Run.bounds("9: a KIND, the highest", "paper(69,3)", "as(0,@)", 0, 6, BEYOND);
        Run.of("9: m: the least and the most", "paper(60,0) paper(69,0) as(0,6)=0 as(1,6)=9 as(1,3)=9 as(1,0)=9");
        Run.of("9: KIND: it isn't of that KIND", "paper(5,0) as(0,0)=5 as(0,1)=KIND as(0,2)=KIND as(0,3)=KIND",
            "as(0,4)=KIND as(0,5)=KIND as(0,6)=KIND");
        Run.of("9: KIND: one above is not one under", "paper(15,0) as(0,4)=KIND as(0,1)=5 paper(25,0) as(1,5)=KIND",
            "as(1,2)=5 paper(35,0) as(2,6)=KIND as(2,3)=5");
        Run.of("9: BEYOND ahead of KIND", "paper(5,0) as(0,7)=BEYOND as(0,-1)=BEYOND as(1,1)=BEYOND told(5)=0");
        Run.of("9: as it is now", "paper(15,0) become(0,38)=1 as(0,1)=KIND as(0,3)=8");
    }

    private static void feed() {
        Run.bounds("10: n (1 .. 8)", SOME, "feed(49,@)", 1, 8, BEYOND);
        Run.of("10: the n lowest bytes, the lowest first: 1", "feed(8825501086245354103,1)=1 text(0)=1",
            "law(0,33,2,0)=33");
        Run.of("10: the n lowest bytes, the lowest first: a FAULT at the last of 8",
            "feed(2968481731314264951,8)=8 text(0)=-17");
        // The word is 18+h-w+1.
        Run.of("10: the n lowest bytes, the lowest first: all of 8", "feed(3543056568761923633,8)=8 text(0)=1",
            "law(0,5,7,0)=21");
        Run.of("10: a word below 0", "feed(-1,8)=8 text(0)=-10 feed(-128,1)=1 text(0)=-10",
            "feed(-9223372036854775759,1)=1 text(0)=1 law(0,0,0,0)=1");
        Run.of("10: how many there are", "feed(0,1)=1 feed(0,8)=9 feed(0,3)=12 count(6)=12");
        Run.of("10: FULL: 50 are fine, 51 not", "6*feed(49,8) feed(49,3)=FULL feed(49,2)=50 feed(49,1)=FULL",
            "feed(49,8)=FULL count(6)=50");
        Run.of("10: FULL: from 49", "6*feed(49,8) feed(49,1)=49 feed(49,2)=FULL feed(49,1)=50");
        Run.of("10: FULL: none of them come", "5*feed(3472328296227680304,8) say(00)",
            "feed(3472328296227680304,8)=50 feed(49,1)=FULL text(0)=-14");
        Run.of("10: BEYOND ahead of FULL", "6*feed(49,8) feed(49,2)=50 feed(49,9)=BEYOND feed(49,0)=BEYOND",
            "feed(49,MIN)=BEYOND feed(49,1)=FULL");
        Run.of("10: it is empty behind a TEXT: 50 come again", "6*feed(49,8) feed(49,2)=50 text(0)=-11",
            "6*feed(49,8) feed(49,2)=50 feed(49,1)=FULL");
    }

    private static void text() {
        Run.bounds("11: a USE (0, 1)", SOME + "text(0) say(5)", "text(@)", 0, 1, BEYOND);
        Run.of("11: THE TAPE, which is empty then", "say(5) text(0)=1 count(6)=0 text(0)=-10");
        Run.of("11: in place of one ahead", "going(5) law(0,0,0,0)=5 going(6) law(0,0,0,0)=6");
        Run.of("11: in place of the one ahead of that USE alone", "going(5) lapse(6) law(0,0,0,0)=5 law(1,0,0,0)=6",
            "lapse(7) law(0,0,0,0)=5 law(1,0,0,0)=7");
        Run.of("11: in place of a longer one: nothing of it is left", "going(!w) law(0,7,0,0)=0 going(w) law(0,7,0,0)=7",
            "going(!!w) going(5) law(0,7,0,0)=5 lapse(!o) lapse(o) law(1,7,0,0)=7");
        Run.of("11: in place of a longer one", "going(w+h+b+w+h+b) law(0,1,2,3)=12 going(w) law(0,1,2,3)=1");
        Run.of("11: BEYOND (THE TAPE stays)", "say(5) text(2)=BEYOND text(-1)=BEYOND count(6)=1 text(0)=1",
            "law(0,0,0,0)=5");
        Run.of("11: BEYOND (THE TAPE stays), though it has a FAULT", "say(w+) text(2)=BEYOND count(6)=2 text(0)=-12");
        Run.of("11: -10 less the FAULT: the one ahead stays", "going(5) going(6+)=-12 law(0,0,0,0)=5 lapse(7)",
            "lapse(w)=-10 law(1,0,0,0)=7");
        Run.of("11: -10 less the FAULT: none ahead", "going(6+)=-12 law(0,3,9,2)=8 lapse(6+)=-12 law(1,9,25,6)=2");
        Run.of("11: -10 less the FAULT: no ERROR", "text(0)=-10 going(6+)=-12 told(1)=0 told(2)=0 told(3)=0",
            "told(4)=0 told(5)=0");
        Run.of("11: -10 less the FAULT: THE TAPE is empty then, too", "going(6+)=-12 count(6)=0 going(7)=1",
            "law(0,0,0,0)=7");
        Run.of("11: a TEXT of 0 is one", "going(0) law(0,0,0,9)=0 lapse(0) law(1,0,90,0)=0");
    }

    private static void law() {
        Run.bounds("12: a USE", SOME, "law(@,1,2,3)", 0, 1, BEYOND);
        Run.of("12: its NAMES in order as a, b, c: any numbers", "going(w<0) law(0,MIN,0,0)=1 going(h<0)",
            "law(0,0,MIN,0)=1 going(b<0) law(0,0,0,MIN)=1",
            "lapse(o>9999) law(1,MAX,0,0)=1 lapse(f>999) law(1,0,MAX,0)=1 lapse(d>6) law(1,0,0,MAX)=1");
        Run.of("12: without a TEXT, any numbers", "law(0,MAX,MAX,MAX)=9 law(0,MIN,MIN,MIN)=9",
            "law(1,MAX,MAX,MAX)=999 law(1,MIN,MIN,MIN)=0");
        Run.of("12: it changes nothing", "flying(0,50,8) law(0,1,2,3)=11 law(1,40,90,6)=9 ofPaper(0,2)=50",
            "count(1)=0 count(2)=0");
    }

    private static void days() {
        Run.bounds("13: n (1 to 60)", SOME, "days(@)", 1, 60, BEYOND);
        Run.of("13: n DAYS", "days(1)=0 count(1)=1 days(60)=0 count(1)=61");
        Run.of("13: DEBT of all together: none", "days(60)=0");
        Run.of("13: DEBT of all together: the most", "8*paper(0,9999) days(1)=79992");
        Run.of("13: one day by one or all at once", "flying(0,500,8) flying(50,500,8) days(1)=1000 days(1)=999",
            "days(1)=997 days(1)=993 days(1)=988 then(0,1,0)=36",
            "image() restore()=5 count(3)=988");
        Run.of("13: all at once", "flying(0,500,8) flying(50,500,8) days(5)=988 ofPaper(0,5)=25 ofPaper(1,5)=36");
        Run.of("13: STATE: DAY would be above 9999", "166*days(60) days(40)=STATE count(1)=9960 days(39)=0",
            "count(1)=9999 days(1)=STATE days(60)=STATE count(1)=9999");
        Run.of("13: STATE: papers stay as they are", "166*days(60) days(39) flying(0,500,8) days(1)=STATE",
            "ofPaper(0,5)=0 ofPaper(0,2)=500");
        Run.of("13: BEYOND ahead of STATE", "166*days(60) days(39) days(61)=BEYOND days(0)=BEYOND days(MAX)=BEYOND",
            "days(MIN)=BEYOND days(1)=STATE");
    }

    private static void loose() {
        Run.bounds("14: n (1 to 40)", SOME, "loose(@)", 1, 40, BEYOND);
        Run.of("14: n DAYS by draws", "loose(1)=0 count(1)=1 loose(40)=0 count(1)=41");
        // From 1 the draws give WINDS 4, 2, 6, so that it goes 9, 7, 11.
        Run.of("14: a draw for each DAY", "flying(0,500,8) loose(1)=500 ofPaper(0,5)=9 loose(1)=499",
            "ofPaper(0,5)=16 loose(1)=497 ofPaper(0,5)=27");
        Run.of("14: a draw for each DAY, all at once", "flying(0,500,8) loose(3)=497 ofPaper(0,5)=27 count(1)=3");
        Run.of("14: STATE: DAY would be above 9999", "166*days(60) loose(40)=STATE count(1)=9960 count(9)=1",
            "loose(39)=0 count(1)=9999 loose(1)=STATE loose(40)=STATE");
        Run.of("14: STATE: WIND and z stay", "166*days(60) days(39) wind(6) seed(5) loose(1)=STATE count(2)=6",
            "count(9)=5");
        Run.of("14: BEYOND ahead of STATE", "166*days(60) days(39) loose(41)=BEYOND loose(0)=BEYOND",
            "loose(MAX)=BEYOND loose(MIN)=BEYOND loose(1)=STATE");
    }

    private static void shape() {
        Run.bounds("15: a set of CREASES (0 to 127)", SOME, "shape(@,0)", 0, 127, BEYOND);
        Run.bounds("15: what", SOME, "shape(5,@)", 0, 1, BEYOND);
        Run.of("15: the least and the most", "shape(0,0)=8 shape(0,1)=1 shape(127,0)=1 shape(127,1)=8",
            "shape(63,0)=2 shape(63,1)=7");
    }

    private static void least() {
        Run.bounds("16: a width x (1 to 8)", SOME, "least(@,8)", 1, 8, BEYOND);
        Run.bounds("16: a thickness y (1 to 8)", SOME, "least(8,@)", 1, 8, BEYOND);
        Run.of("16: WIDE x at most: by none are needed", "least(8,1)=0 least(8,8)=0");
        Run.of("16: WIDE x at most", "least(7,8)=1 least(6,8)=2 least(5,8)=4 least(4,8)=8 least(3,8)=18",
            "least(2,8)=42 least(1,8)=127");
        Run.of("16: THICK y at most: y and one less", "least(4,2)=8 least(4,1)=NONE least(3,3)=18 least(3,2)=NONE",
            "least(2,4)=42 least(2,3)=NONE least(1,8)=127 least(1,7)=NONE");
        Run.of("16: the fewest, though a set of more is less", "least(6,2)=2 least(4,2)=8 least(5,2)=4");
        Run.of("16: NONE: by none", "least(7,1)=NONE least(1,1)=NONE least(7,2)=1");
        Run.of("16: BEYOND ahead of NONE", "least(0,1)=BEYOND least(1,0)=BEYOND least(1,9)=BEYOND told(2)=0");
    }

    private static void shapes() {
        Run.bounds("17: x", SOME, "shapes(@,4,0)", 1, 8, BEYOND);
        Run.bounds("17: y", SOME, "shapes(4,@,0)", 1, 8, BEYOND);
        Run.bounds("17: what", SOME, "shapes(4,3,@)", 0, 1, BEYOND);
        Run.of("17: just x WIDE, y THICK", "shapes(8,1,0)=1 shapes(8,1,1)=0 shapes(8,2,0)=0 shapes(7,1,0)=0",
            "shapes(7,2,0)=2 shapes(7,2,1)=1 shapes(7,3,0)=0",
            "shapes(1,8,0)=1 shapes(1,8,1)=127 shapes(1,7,0)=0 shapes(2,7,0)=2 shapes(2,7,1)=63 shapes(2,8,0)=0");
        Run.of("17: the most there are", "shapes(3,4,0)=24 shapes(3,4,1)=19 shapes(4,3,0)=19 shapes(4,3,1)=9");
        Run.of("17: NONE: (what 1) there are none", "shapes(8,2,1)=NONE shapes(1,7,1)=NONE shapes(3,7,1)=NONE",
            "told(2)=3");
        Run.of("17: what 0 is 0 there", "shapes(8,2,0)=0 shapes(1,7,0)=0 told(2)=0");
        Run.of("17: BEYOND ahead of NONE", "shapes(0,1,1)=BEYOND shapes(8,9,1)=BEYOND shapes(8,2,2)=BEYOND",
            "told(2)=0");
    }

    private static void way() {
        Run.bounds("18: a PAPER", SOME, "way(@,0)", 0, 1, BEYOND);
        Run.bounds("18: a set of CREASES", "paper(0,0)", "way(0,@)", 0, 127, BEYOND);
        Run.of("18: the fewest FOLDS: none", "paper(0,0) way(0,0)=0 folded(0,0,42) way(1,42)=0");
        Run.of("18: the fewest FOLDS: all", "paper(0,0) way(0,127)=7 folded(0,0,127) way(1,0)=7 folded(0,0,42)",
            "way(2,85)=7");
        Run.of("18: never being THICKER than STIFF: as THICK is fine", "paper(60,0) way(0,3)=2 paper(20,0)",
            "way(1,7)=3 paper(30,0) way(2,31)=5");
        Run.of("18: never being THICKER than STIFF: THICKER by 1", "paper(60,0) way(0,7)=NONE paper(20,0)",
            "way(1,15)=NONE paper(30,0) way(2,63)=NONE");
        Run.of("18: never being THICKER behind one: a longer way round", "folded(60,0,2) way(0,27)=5");
        Run.of("18: it is THICKER now, and stays", "folded(60,0,127) way(0,127)=0");
        Run.of("18: it is THICKER now, and the first FOLD helps", "folded(60,0,7) way(0,3)=1 way(0,1)=2 way(0,0)=3",
            "way(0,7)=0");
        Run.of("18: NONE: it is THICKER now behind each FOLD", "folded(60,0,127) way(0,126)=NONE way(0,0)=NONE",
            "way(0,63)=NONE");
        Run.of("18: one that is UP, too", "flying(0,0,8) way(0,9)=1");
        Run.of("18: it is only thought", "paper(0,0) way(0,127)=7 ofPaper(0,3)=0");
    }

    private static void open() {
        Run.bounds("19: a PAPER", SOME, "open(@,8)", 0, 1, BEYOND);
        Run.bounds("19: x (1 to 8)", SOME, "open(1,@)", 1, 8, BEYOND);
        Run.of("19: none, if it is so WIDE", "paper(0,0) open(0,1)=0 open(0,8)=0 folded(0,0,8) open(1,4)=0",
            "open(1,5)=8");
        Run.of("19: all, if it is to be as WIDE as can be", "folded(0,0,127) open(0,8)=127 folded(0,0,42)",
            "open(1,8)=42 folded(0,0,64) open(2,8)=64");
        Run.of("19: WIDE x or more", "folded(0,0,127) open(0,1)=0 open(0,2)=1 folded(0,0,8) open(1,5)=8 open(1,8)=8");
        Run.of("19: the fewest, though a set of more is less", "folded(0,0,45) open(0,5)=32");
        Run.of("19: of several sets the least", "folded(0,0,127) open(0,2)=1 folded(0,0,65) open(1,7)=1 open(1,6)=0");
        Run.of("19: it is only thought", "folded(0,0,127) open(0,8)=127 ofPaper(0,3)=127");
    }

    private static void alike() {
        Run.bounds("20: what", SOME + "folded(0,0,36) folded(0,0,18)", "alike(@)", 0, 1, BEYOND);
        Run.of("20: no PAPERS, one PAPER", "alike(0)=0 alike(1)=NONE folded(0,0,8) alike(0)=0 alike(1)=NONE");
        Run.of("20: of unlike CREASES", "2*paper(0,0) folded(0,0,8) folded(0,0,8) alike(0)=0 alike(1)=NONE");
        Run.of("20: as WIDE and as THICK", "folded(0,0,8) folded(0,0,17) alike(0)=1 alike(1)=1");
        Run.of("20: as WIDE, but not as THICK", "folded(0,0,2) folded(0,0,3) alike(0)=0 alike(1)=NONE");
        Run.of("20: as THICK, but not as WIDE", "folded(0,0,8) folded(0,0,4) alike(0)=0 alike(1)=NONE");
        Run.of("20: how many: the most", "folded(0,0,18) folded(0,0,36) folded(0,0,41) folded(0,0,74)",
            "folded(0,0,83) folded(0,0,91) folded(0,0,101) folded(0,0,109)",
            "alike(0)=28 alike(1)=1");
        Run.of("20: the first: the last two", "7*paper(0,0) folded(0,0,8) fold(6,0)=7 fold(6,4)=4 alike(0)=1",
            "alike(1)=67");
        Run.of("20: the first by the lesser", "folded(0,0,8) folded(0,0,1) folded(0,0,64) folded(0,0,17)",
            "alike(0)=2 alike(1)=3");
        Run.of("20: unlike KINDS don't matter", "folded(0,0,8) flying(69,0,17) alike(0)=1");
        Run.of("20: BEYOND ahead of NONE", "alike(2)=BEYOND alike(-1)=BEYOND told(2)=0");
    }

    private static void then() {
        Run.bounds("21: n (0 to 60)", SOME, "then(@,0,0)", 0, 60, BEYOND);
        Run.bounds("21: a PAPER", SOME, "then(3,@,1)", 0, 1, BEYOND);
        Run.bounds("21: what", SOME, "then(3,0,@)", 0, 1, BEYOND);
        Run.of("21: BEHIND 0 DAYS", "flying(0,500,8) change(0,2,7) then(0,0,0)=7 then(0,0,1)=500");
        Run.of("21: BEHIND 1 DAY, 60 DAYS", "flying(0,500,8) then(1,0,0)=5 then(1,0,1)=500 then(60,0,0)=300",
            "then(60,0,1)=0");
        Run.of("21: FAR is held, DEBT 0 at least", "flying(10,9999,8) going(99) then(5,0,0)=990 then(6,0,0)=999",
            "then(60,0,0)=999 lapse(999) then(10,0,1)=9 then(11,0,1)=0 then(60,0,1)=0");
        Run.of("21: one that isn't UP", "folded(0,500,8) change(0,2,990) then(60,0,0)=990 then(60,0,1)=500");
        Run.of("21: only thought", "flying(0,500,8) then(60,0,1)=0 count(1)=0 ofPaper(0,5)=0 ofPaper(0,2)=500");
        Run.of("21: DAY beyond 9999, too: SENTENCE rests on DAY 10000", "166*days(60) days(39) flying(50,900,8)",
            "going(7) then(1,0,0)=11 then(2,0,0)=11 then(3,0,0)=22",
            "then(6,0,0)=55 then(7,0,0)=55 then(8,0,0)=66 then(60,0,0)=528 count(1)=9999");
        // DAY 9999 leaves 3 by 7, 10000 leaves 4, 10002 leaves 6, 10003 leaves 0.
        Run.of("21: DAY beyond 9999, too: rests by 7", "166*days(60) days(39) flying(0,900,8) lapse(d*10)",
            "then(1,0,1)=870 then(2,0,1)=830 then(3,0,1)=780 then(4,0,1)=720 then(5,0,1)=720 then(6,0,1)=710");
    }

    private static void first() {
        Run.bounds("22: what", "flying(0,5,8)", "first(@)", 0, 1, BEYOND);
        Run.of("22: NONE: no PAPERS", "first(0)=NONE first(1)=NONE");
        Run.of("22: NONE: none is UP", "folded(0,5,8) change(0,2,99) first(0)=NONE first(1)=NONE");
        Run.of("22: behind 1 DAY", "flying(0,5,8) going(1) change(0,2,99) first(0)=1 first(1)=0");
        Run.of("22: behind 60 DAYS", "flying(0,5,8) going(1) change(0,2,40) first(0)=60 first(1)=0");
        Run.of("22: NONE: not by 60", "flying(0,5,8) going(1) change(0,2,39) first(0)=NONE first(1)=NONE");
        Run.of("22: NONE: it never goes", "flying(0,5,8) going(0) change(0,2,99) first(0)=NONE");
        Run.of("22: more GONE than now: all are", "flying(0,5,8) change(0,2,100) first(0)=NONE first(1)=NONE");
        Run.of("22: more GONE than now: one is, another follows", "flying(0,5,8) change(0,2,100) flying(0,5,8)",
            "change(1,2,95) first(0)=1 first(1)=1");
        Run.of("22: more GONE than now: one is FAR beyond", "flying(0,5,8) change(0,2,101) flying(0,5,8)",
            "change(1,2,90) first(0)=2 first(1)=1 change(0,2,999) first(0)=2 first(1)=1 change(1,2,101) first(0)=NONE");
        Run.of("22: which: the first, though one behind it goes later", "flying(0,5,8) flying(0,5,8) change(0,2,95)",
            "change(1,2,90) first(0)=1 first(1)=0");
        Run.of("22: one that isn't UP is not GONE, though FAR", "folded(0,5,8) change(0,2,100) flying(0,5,8)",
            "change(1,2,94) first(0)=2 first(1)=1");
        Run.of("22: which (the least)", "paper(0,0) flying(0,5,8) flying(0,5,8) change(1,2,90) change(2,2,90)",
            "first(0)=2 first(1)=1");
        Run.of("22: which: the first, though another is less", "flying(0,5,8) flying(0,5,8) change(0,2,90)",
            "change(1,2,95) first(0)=1 first(1)=1");
        Run.of("22: which (the least), though another is FARTHER then", "flying(0,5,8) flying(10,5,8)",
            "change(0,2,95) change(1,2,99) first(0)=1 first(1)=0");
        Run.of("22: 8 PAPERS", "7*paper(0,0) first(0)=NONE flying(0,5,8) change(7,2,90) first(0)=2 first(1)=7",
            "change(7,1,0) first(0)=NONE");
        Run.of("22: DAY beyond 9999, too", "166*days(60) days(39) flying(50,5,8) going(7) change(0,2,88)",
            "first(0)=3 first(1)=0 count(1)=9999");
        Run.of("22: BEYOND ahead of NONE", "first(2)=BEYOND first(-1)=BEYOND told(2)=0");
    }

    private static void best() {
        Run.bounds("23: a PAPER", SOME, "best(@,3,0)", 0, 1, BEYOND);
        Run.bounds("23: n (0 to 60)", SOME, "best(0,@,1)", 0, 60, BEYOND);
        Run.bounds("23: what", SOME, "best(0,3,@)", 0, 1, BEYOND);
        Run.of("23: by 0 DAYS: of several the least; FAR as it is", "paper(0,0) change(0,2,7) best(0,0,0)=8",
            "best(0,0,1)=7 paper(60,0) best(1,0,0)=2 paper(30,0) best(2,0,0)=18");
        Run.of("23: LIVING: as WIDE as it may, not more", "paper(0,0) going(w) best(0,9,0)=8 best(0,9,1)=36",
            "paper(20,0) going(w) best(1,9,0)=4 best(1,9,1)=90 paper(60,0) going(w*2) best(2,9,0)=2 best(2,9,1)=54");
        Run.of("23: no THICKER than STIFF: as THICK as it may, not more", "paper(0,0) going(h) best(0,9,0)=127",
            "best(0,9,1)=72 paper(20,0) best(1,1,0)=7 best(1,1,1)=9 paper(60,0) going(h*2) best(2,9,0)=3",
            "best(2,9,1)=27");
        Run.of("23: of several the least: FAR is held", "paper(0,0) change(0,2,990) going(h+9) best(0,1,0)=8",
            "best(0,1,1)=999 change(0,2,989) best(0,1,0)=8 best(0,1,1)=999",
            "change(0,2,982) best(0,1,0)=127 best(0,1,1)=999 change(0,2,983) best(0,1,0)=63 best(0,1,1)=999");
        Run.of("23: UP from now on, though it isn't", "paper(0,0) best(0,60,0)=127 best(0,60,1)=480 ofPaper(0,4)=0",
            "ofPaper(0,3)=0");
        Run.of("23: UP from now on, though it is", "flying(0,0,8) best(0,60,0)=127 best(0,60,1)=480 ofPaper(0,3)=8");
        Run.of("23: DAY beyond 9999, too", "166*days(60) days(39) paper(50,0) best(0,2,1)=9 best(0,3,1)=18",
            "best(0,3,0)=4");
        // Each kind lives by some set that is thin enough, so that NONE is never due.
        for (int km = 0; km < 70; km++) Run.of("23: NONE: there is none (there is always one)",
            "paper(" + km + ",0) best(0,0,1)=0 best(0,60,0)");
    }

    private static void fits() {
        String one = "flying(0,5,8) ";
        Run.bounds("24: a SHEET", one + "row(0,8,5,1) row(1,8,5,1) row(2,8,5,1) row(3,8,5,1)", "fits(@,0)", 0, 3, BEYOND);
        Run.bounds("24: what", one + "row(0,8,5,1)", "fits(0,@)", 0, 1, BEYOND);
        Run.of("24: WINDS (0 to 9): the least", one + "row(0,32,5,1) fits(0,0)=1 fits(0,1)=1 row(0,32,4,1)",
            "fits(0,0)=0 fits(0,1)=0");
        Run.of("24: WINDS (0 to 9): the most", one + "row(0,32,14,1) fits(0,0)=512 fits(0,1)=1 row(0,32,15,1)",
            "fits(0,0)=0");
        Run.of("24: WINDS (0 to 9): all", one + "row(0,32,0,0) fits(0,0)=1023 fits(0,1)=10");
        Run.of("24: WIND as it is doesn't matter", one + "wind(9) row(0,32,5,1) fits(0,0)=1 count(2)=9");
        Run.of("24: behind so many DAYS: 0 and 60", one + "going(b) row(0,32,0,0) fits(0,0)=1023 row(0,32,60,60)",
            "fits(0,0)=2 row(0,32,540,60) fits(0,0)=512");
        Run.of("24: NONE: its last one is none of these: 61, -1", one + "row(0,32,0,61) fits(0,0)=NONE",
            "row(0,32,0,-1) fits(0,1)=NONE row(0,32,0,MIN) fits(0,0)=NONE row(0,32,0,MAX) fits(0,0)=NONE");
        Run.of("24: NONE: the SHEET is missing", one + "fits(0,0)=NONE row(0,8,0,0) fits(0,0)=1023 sheet(0,0,0)",
            "fits(0,0)=NONE");
        Run.of("24: NONE: has not one more number than there are PAPERS", one + "row(0,8,0) fits(0,0)=NONE",
            "row(0,8,0,0,0) fits(0,0)=NONE row(0,8,0,0) fits(0,0)=1023 sheet(0,8,0) fits(0,0)=NONE");
        Run.of("24: no PAPERS", "row(0,8,0) fits(0,0)=1023 row(0,8,60) fits(0,1)=10 row(0,8,61) fits(0,0)=NONE",
            "sheet(0,8,0) fits(0,0)=NONE");
        Run.of("24: 8 PAPERS", "7*paper(0,0) " , "flying(0,0,8) row(0,8,0,0,0,0,0,0,0,7,1) fits(0,0)=4",
            "row(0,8,0,0,0,0,0,0,1,7,1) fits(0,0)=0");
        Run.of("24: of all PAPERS", one + "flying(10,5,8) row(0,16,7,14,1) fits(0,0)=4 row(0,16,7,15,1)",
            "fits(0,0)=0 row(0,16,8,14,1) fits(0,0)=0");
        Run.of("24: DAY beyond 9999, too", "166*days(60) days(39) flying(50,5,8) going(b) row(0,16,18,3)",
            "fits(0,0)=32 count(1)=9999");
        Run.of("24: BEYOND ahead of NONE", "fits(0,2)=BEYOND fits(4,0)=BEYOND fits(0,-1)=BEYOND told(2)=0");
    }

    private static void owed() {
        Run.bounds("25: n (0 to 60)", SOME, "owed(@)", 0, 60, BEYOND);
        Run.of("25: no PAPERS", "owed(0)=0 owed(60)=0");
        Run.of("25: behind 0 DAYS", "flying(0,500,8) paper(0,9999) owed(0)=10499");
        Run.of("25: the most", "8*paper(0,9999) owed(60)=79992");
        Run.of("25: 0 at least", "flying(10,100,8) folded(10,70,8) owed(3)=164 owed(60)=70 count(3)=170 count(1)=0");
        Run.of("25: DAY beyond 9999, too", "166*days(60) days(39) flying(0,900,8) lapse(d*10) owed(4)=720",
            "owed(5)=720 owed(6)=710 count(1)=9999");
    }

    private static void debtor() {
        Run.bounds("26: n (0 to 30)", SOME, "debtor(@)", 0, 30, BEYOND);
        Run.of("26: NONE: there are no PAPERS", "debtor(0)=NONE debtor(30)=NONE paper(0,0) debtor(30)=0");
        Run.of("26: BEYOND ahead of NONE", "debtor(31)=BEYOND debtor(-1)=BEYOND told(2)=0");
        Run.of("26: behind 0 DAYS: the least", "3*paper(0,500) debtor(0)=0");
        Run.of("26: of several the least", "paper(0,0) folded(10,500,8) folded(10,500,8) debtor(5)=1");
        Run.of("26: would make OWED least", "folded(0,500,8) folded(10,500,8) folded(0,500,8) debtor(5)=1");
        Run.of("26: one that is UP changes nothing", "flying(10,9000,8) folded(0,500,8) debtor(20)=1");
        Run.of("26: one that is UP changes nothing: another less by 1", "flying(10,9000,8) folded(0,500,8)",
            "change(1,2,4) debtor(1)=0 change(1,2,5) debtor(1)=1");
        Run.of("26: one that is UP changes nothing: another less by 0", "folded(0,500,8) flying(10,9000,8)",
            "debtor(0)=0 debtor(1)=0");
        Run.of("26: all are UP: the least", "flying(10,9000,8) flying(10,9000,8) debtor(20)=0");
        Run.of("26: one that owes no more than 0", "folded(10,0,8) folded(0,1,8) change(1,2,10) debtor(1)=1");
        Run.of("26: (living or not)", "paper(0,500) folded(0,500,4) going(5) change(1,2,90) ofPaper(1,9)=0",
            "debtor(9)=1");
        Run.of("26: behind 30 DAYS just", "folded(0,500,8) folded(0,400,8) going(1) lapse(f>29) change(0,2,0)",
            "change(1,2,1) debtor(28)=0 debtor(29)=1 debtor(30)=1 change(1,2,0) debtor(30)=0");
        Run.of("26: it is only thought", "paper(0,500) debtor(30)=0 count(4)=0 count(3)=500");
    }

    private static void odds() {
        Run.bounds("27: a PAPER", SOME, "odds(@,0)", 0, 1, BEYOND);
        Run.bounds("27: part", SOME, "odds(0,@)", 0, 1, BEYOND);
        Run.of("27: in lowest terms", "paper(0,0) odds(0,0)=25 odds(0,1)=32 paper(60,0) odds(1,0)=18 odds(1,1)=19");
        Run.of("27: of all sets, whatever it is now", "flying(0,0,127) odds(0,0)=25 odds(0,1)=32 become(0,60)",
            "odds(0,0)=18 odds(0,1)=19");
        // 0 by 1 is never due, as each kind lives by some set; held against a count over all sets.
        for (int km = 0; km < 70; km++) {
            int stiff = new NaiveKind(km).stiff();
            int widest = new NaiveKind(km).widest();
            int living = 0;
            int all = 0;
            for (int set = 0; set < 128; set++) {
                if (NaiveFolds.thick(set) > stiff) continue;
                all++;
                if (set != 0 && NaiveFolds.wide(set) <= widest) living++;
            }
            for (int k = 127; k > 1; k--) if (living % k == 0 && all % k == 0) { living /= k; all /= k; }
            Run.of("27: each just as likely: " + km, "paper(" + km + ",0) odds(0,0)=" + living + " odds(0,1)=" + all);
        }
    }

    /** What a kind holds, as the document tells it. */
    private record NaiveKind(int km) {
        int stiff() {
            int m = km % 10;
            return new int[] {8, 8 - m % 4, 8 / 2, 6, 8 - m % 4 - 1, 8 / 2 + m % 2, 3}[km / 10];
        }
        int widest() {
            int m = km % 10;
            return new int[] {4, 4 + m % 3, 5, 3, 4 + m % 3, 5, 6}[km / 10];
        }
    }

    private static void seed() {
        Run.of("28: what it was (any number)", "seed(0)=1 seed(MAX)=0 seed(MIN)=MAX seed(-1)=MIN",
            "seed(-1000000001)=-1 seed(5)=-1000000001 count(9)=5 told(1)=0");
    }

    private static void voice() {
        Run.bounds("29: a PAPER", SOME, "voice(@,0,5)", 0, 1, BEYOND);
        Run.bounds("29: a VOICE (0 to 3)", SOME, "voice(0,@,5)", 0, 3, BEYOND);
        Run.of("29: BEYOND: THE TRACE stays", "paper(0,0) voice(0,1,1)=2 voice(0,4,1)=BEYOND voice(1,0,1)=BEYOND",
            "count(8)=2 trace(0)=11 trace(1)=10");
        Run.of("29: x: any number", "paper(9,0) voice(0,0,MAX)=MAX voice(0,0,MIN)=MIN voice(0,2,MAX)=2147483638",
            "voice(0,2,MIN)=2147483639");
        Run.of("29: n is the number: 0 and 7", "8*paper(0,0) voice(0,0,1)=1 voice(7,0,1)=8");
        Run.of("29: any number: no ERROR", "paper(0,0) voice(0,0,-1000000003)=-1000000003 told(3)=0");
    }

    private static void trace() {
        Run.bounds("30: THE TRACE's i-th", "paper(60,0) voice(0,3,1)", "trace(@)", 0, 8, NONE);
        Run.bounds("30: THE TRACE's only one", "paper(0,0) voice(0,0,1)", "trace(@)", 0, 0, NONE);
        Run.of("30: NONE: there is no TRACE", "trace(0)=NONE trace(-1)=NONE trace(39)=NONE trace(40)=NONE");
    }

    private static void sheet() {
        Run.bounds("31: a SHEET", SOME, "sheet(@,8,1)", 0, 3, BEYOND);
        Run.bounds("31: a SHEET that is to be missing", SOME, "sheet(@,0,1)", 0, 3, BEYOND);
        for (int bits : new int[] {8, 16, 32}) {
            Run.of("31: so many bits", "sheet(0," + bits + ",0)=1 sheet(1," + bits + ",40)=1 judge(0)=-1",
            "put(1,39,0)=1");
            for (int other : new int[] {bits - 1, bits + 1, -bits})
                Run.of("31: no other bits", SOME + "sheet(0," + other + ",1)=BEYOND");
            Run.of("31: n above 40", SOME + "sheet(0," + bits + ",41)=BEYOND sheet(0," + bits + ",MAX)=BEYOND");
            Run.of("31: STATE: n is below 0", SOME + "sheet(0," + bits + ",-1)=STATE",
            "sheet(0," + bits + ",MIN)=STATE");
        }
        for (int bits : new int[] {1, -1, 24, 64, 128, Integer.MIN_VALUE, Integer.MAX_VALUE})
            Run.of("31: no other bits", SOME + "sheet(0," + bits + ",1)=BEYOND");
        Run.of("31: 0: it is missing, n doesn't matter", "sheet(0,8,1)=1 sheet(0,0,41)=1 judge(0)=NONE",
            "sheet(0,0,-1)=1 sheet(0,0,MIN)=1 sheet(0,0,MAX)=1 judge(0)=NONE told(3)=0 told(1)=0");
        Run.of("31: n numbers, all 0", "3*paper(0,9) row(0,32,1,2,3) sheet(0,32,3)=1 debts(0)=3 count(3)=0");
        Run.of("31: all 0, those that were beyond, too", "3*paper(0,9) row(0,32,1,2,3) sheet(0,32,1)=1",
            "sheet(0,32,3)=1 debts(0)=3 count(3)=0");
        Run.of("31: fewer, more", "row(0,8,1,2,3) sheet(0,8,2)=1 put(0,2,1)=BEYOND sheet(0,8,4)=1 put(0,3,1)=1",
            "put(0,4,1)=BEYOND");
        Run.of("31: of other bits", "paper(0,0) row(0,8,300) sheet(0,16,1)=1 put(0,0,300)=1 debts(0)=1",
            "ofPaper(0,2)=300");
        Run.of("31: BEYOND ahead of STATE: no such SHEET, no such bits", "sheet(4,8,-1)=BEYOND",
            "sheet(-1,8,-1)=BEYOND sheet(0,7,-1)=BEYOND told(3)=0");
        Run.of("31: STATE (ahead of BEYOND of n)", "sheet(0,8,-1)=STATE sheet(0,8,-41)=STATE sheet(0,8,41)=BEYOND",
            "told(1)=1 told(3)=2");
        Run.of("31: one that is refused leaves the one there is", "2*paper(0,0) row(0,16,7,8) sheet(0,8,41)=BEYOND",
            "sheet(0,8,-1)=STATE debts(0)=2 ofPaper(1,2)=8");
    }

    private static void put() {
        String all = "row(0,8,1,2) row(1,8,1,2) row(2,8,1,2) row(3,8,1,2)";
        Run.bounds("32: a SHEET", all, "put(@,1,5)", 0, 3, BEYOND);
        Run.bounds("32: a number", all, "put(2,@,5)", 0, 1, BEYOND);
        Run.bounds("32: a number of 40", "sheet(0,16,40)", "put(0,@,5)", 0, 39, BEYOND);
        Run.of("32: v (its lowest bits): 8", "paper(0,9) row(0,8,257) debts(0)=1 ofPaper(0,2)=1 row(0,8,-256)",
            "debts(0)=1 ofPaper(0,2)=0 row(0,8,383) debts(0)=1 ofPaper(0,2)=127");
        Run.of("32: v (its lowest bits): 16", "paper(0,9) row(0,16,65537) debts(0)=1 ofPaper(0,2)=1",
            "row(0,16,-65536) debts(0)=1 ofPaper(0,2)=0 row(0,16,257) debts(0)=1 ofPaper(0,2)=257");
        Run.of("32: v (its lowest bits): 32", "paper(0,9) row(0,32,65537) debts(0)=0 row(0,32,257) debts(0)=1",
            "ofPaper(0,2)=257 row(0,32,MIN) debts(0)=0");
        Run.of("32: one alone", "3*paper(0,9) row(0,8,1,2,3) put(0,1,7)=1 debts(0)=3 ofPaper(0,2)=1 ofPaper(1,2)=7",
            "ofPaper(2,2)=3");
        Run.of("32: NONE: it is missing", "put(0,0,0)=NONE sheet(0,8,1) put(0,0,0)=1 sheet(0,0,1) put(0,0,0)=NONE");
        Run.of("32: BEYOND: no such number: of an empty one", "sheet(0,8,0) put(0,0,0)=BEYOND");
        Run.of("32: BEYOND of the SHEET ahead of NONE", "put(4,0,0)=BEYOND put(-1,-1,0)=BEYOND told(2)=0");
        Run.of("32: NONE ahead of BEYOND of the number", "put(0,-1,0)=NONE put(0,40,0)=NONE put(3,MAX,0)=NONE",
            "told(1)=0");
    }

    private static void move() {
        String two = "5*paper(0,9) row(0,16,1,2,3,4,5) row(1,16,6,7,8) row(2,8,1,2,3,4,5) ";
        String four = "row(0,8,1,2) row(1,8,3,4) row(2,8,5,6) row(3,8,7,8)";
        Run.bounds("33: a SHEET", four, "move(@,0,1,0,2)", 0, 3, BEYOND);
        Run.bounds("33: another one", four, "move(1,0,@,0,2)", 0, 3, BEYOND);
        Run.bounds("33: n", two, "move(0,0,1,0,@)", 0, 3, BEYOND);
        Run.bounds("33: n, up to the end of the SHEET", two, "move(1,1,0,0,@)", 0, 2, BEYOND);
        Run.bounds("33: i", two, "move(0,@,1,0,2)", 0, 3, BEYOND);
        Run.bounds("33: j", two, "move(0,0,1,@,2)", 0, 1, BEYOND);
        Run.bounds("33: i, of none", two, "move(0,@,1,0,0)", 0, 5, BEYOND);
        Run.bounds("33: j, of none", two, "move(0,0,1,@,0)", 0, 3, BEYOND);
        Run.bounds("33: n, from and to the end", two, "move(0,5,1,3,@)", 0, 0, BEYOND);
        Run.of("33: from number i on, to number j on", two + "move(0,2,1,1,2)=2 debts(1)=3 ofPaper(0,2)=6",
            "ofPaper(1,2)=3 ofPaper(2,2)=4 debts(0)=5 ofPaper(2,2)=3");
        Run.of("33: all", two + "move(1,0,0,2,3)=3 debts(0)=5 ofPaper(0,2)=1 ofPaper(1,2)=2 ofPaper(2,2)=6",
            "ofPaper(3,2)=7 ofPaper(4,2)=8");
        Run.of("33: none", two + "move(0,0,1,0,0)=0 debts(1)=3 ofPaper(0,2)=6");
        Run.of("33: the same, as they all were: upward", two + "move(0,0,0,1,4)=4 debts(0)=5 ofPaper(0,2)=1",
            "ofPaper(1,2)=1 ofPaper(2,2)=2 ofPaper(3,2)=3 ofPaper(4,2)=4");
        Run.of("33: the same, as they all were: downward", two + "move(0,1,0,0,4)=4 debts(0)=5 ofPaper(0,2)=2",
            "ofPaper(1,2)=3 ofPaper(2,2)=4 ofPaper(3,2)=5 ofPaper(4,2)=5");
        Run.of("33: the same, all of it", two + "move(0,0,0,0,5)=5 debts(0)=5 ofPaper(0,2)=1 ofPaper(4,2)=5");
        Run.of("33: sums that wrap", two + "move(0,MAX,1,0,1)=BEYOND move(0,1,1,0,MAX)=BEYOND",
            "move(0,0,1,MAX,1)=BEYOND move(0,0,1,1,MAX)=BEYOND move(0,MAX,1,MAX,MAX)=BEYOND",
            "move(0,MIN,1,0,MIN)=BEYOND");
        Run.of("33: NONE: one is missing", two + "move(3,0,0,0,1)=NONE move(0,0,3,0,1)=NONE move(3,0,3,0,0)=NONE");
        Run.of("33: KIND: they are of unlike bits", two + "move(0,0,2,0,1)=KIND move(2,0,0,0,1)=KIND row(3,32,1)",
            "move(3,0,0,0,1)=KIND move(3,0,2,0,1)=KIND move(2,0,3,0,1)=KIND move(0,0,3,0,1)=KIND");
        Run.of("33: BEYOND of a SHEET ahead of NONE", two + "move(3,0,4,0,1)=BEYOND move(-1,0,3,0,1)=BEYOND",
            "told(2)=0");
        Run.of("33: BEYOND of a SHEET ahead of KIND", two + "move(2,0,4,0,-1)=BEYOND told(5)=0");
        Run.of("33: NONE ahead of KIND and BEYOND", two + "move(3,-1,0,-1,-1)=NONE move(0,9,3,9,9)=NONE told(1)=0",
            "told(5)=0");
        Run.of("33: KIND ahead of BEYOND of n, i, j", two + "move(0,-1,2,0,1)=KIND move(0,0,2,-1,1)=KIND",
            "move(0,0,2,0,-1)=KIND move(0,0,2,0,6)=KIND told(1)=0");
        Run.of("33: from an empty one", two + "sheet(3,16,0) move(3,0,0,0,0)=0 move(3,0,0,0,1)=BEYOND",
            "move(0,0,3,0,1)=BEYOND move(0,5,3,0,0)=0");
    }

    private static void debts() {
        String all = "2*paper(0,9) row(0,8,1,2) row(1,8,1,2) row(2,8,1,2) row(3,8,1,2)";
        Run.bounds("34: a SHEET", all, "debts(@)", 0, 3, BEYOND);
        Run.of("34: up to the first that is not 0 to 9999: 0 and 9999", "2*paper(0,5) row(0,32,0,9999) debts(0)=2",
            "ofPaper(0,2)=0 ofPaper(1,2)=9999");
        Run.of("34: up to the first that is not 0 to 9999: 10000", "3*paper(0,5) row(0,32,1,10000,2) debts(0)=1",
            "ofPaper(0,2)=1 ofPaper(1,2)=5 ofPaper(2,2)=5");
        Run.of("34: up to the first that is not 0 to 9999: -1", "3*paper(0,5) row(0,8,1,-1,2) debts(0)=1",
            "ofPaper(0,2)=1 ofPaper(1,2)=5 ofPaper(2,2)=5");
        Run.of("34: up to the first that is not 0 to 9999: the first of all", "paper(0,5) row(0,32,10000)",
            "debts(0)=0 row(0,32,-1) debts(0)=0 ofPaper(0,2)=5");
        Run.of("34: (no ERROR then)", "paper(0,5) row(0,32,10000) debts(0)=0 told(1)=0 told(2)=0 told(3)=0",
            "told(4)=0 told(5)=0");
        Run.of("34: or for which there is no PAPER", "paper(0,5) row(0,32,1,2) debts(0)=1 ofPaper(0,2)=1 count(0)=1");
        Run.of("34: or for which there is no PAPER: none", "row(0,32,1,2) debts(0)=0 count(0)=0 told(1)=0");
        Run.of("34: or for which there is no PAPER: 8 of 40", "8*paper(0,5) sheet(0,8,40) debts(0)=8 count(3)=0");
        Run.of("34: fewer numbers than PAPERS", "3*paper(0,5) row(0,8,1,2) debts(0)=2 ofPaper(1,2)=2",
            "ofPaper(2,2)=5 sheet(0,8,0) debts(0)=0");
        Run.of("34: one that is UP, too", "flying(0,5,8) row(0,8,7) debts(0)=1 ofPaper(0,2)=7 ofPaper(0,4)=1");
        Run.of("34: NONE: it is missing", all + " sheet(1,0,0) debts(1)=NONE");
        Run.of("34: NONE at first; BEYOND: no such SHEET", "debts(0)=NONE debts(4)=BEYOND debts(-1)=BEYOND",
            "told(2)=1");
    }

    private static void judge() {
        String all = "row(0,8,1,2) row(1,8,1,2) row(2,8,1,2) row(3,8,1,2)";
        Run.bounds("35: a SHEET", all, "judge(@)", 0, 3, BEYOND);
        Run.of("35: -1: all are: none of none", "sheet(0,8,0) judge(0)=-1");
        Run.of("35: -1: all are", "folded(0,0,127) paper(0,0) row(0,8,127,0) judge(0)=-1 row(0,16,127,0)",
            "judge(0)=-1 row(0,32,127,0) judge(0)=-1");
        Run.of("35: -1: all are: 8", "7*paper(0,0) folded(0,0,64) row(0,8,0,0,0,0,0,0,0,64) judge(0)=-1",
            "row(0,8,0,0,0,0,0,0,0,65) judge(0)=7");
        Run.of("35: the first that isn't so: the first, the last", "3*paper(0,0) row(0,8,1,0,1) judge(0)=0",
            "row(0,8,0,0,1) judge(0)=2 row(0,8,0,1,1) judge(0)=1");
        Run.of("35: one that lacks, too", "3*paper(0,0) sheet(0,8,2) judge(0)=2 sheet(0,8,0) judge(0)=0",
            "sheet(0,8,3) judge(0)=-1");
        Run.of("35: one that is too many, too", "3*paper(0,0) sheet(0,8,4) judge(0)=3 sheet(0,8,40) judge(0)=3");
        Run.of("35: one that is too many: of no PAPERS", "sheet(0,8,1) judge(0)=0");
        Run.of("35: the first that isn't so ahead of one that lacks, is too many", "3*paper(0,0) row(0,8,0,1)",
            "judge(0)=1 row(0,8,0,1,0,0) judge(0)=1");
        Run.of("35: numbers that are no CREASES", "paper(0,0) row(0,32,128) judge(0)=0 row(0,32,-1) judge(0)=0",
            "row(0,16,256) judge(0)=0 row(0,8,256) judge(0)=-1");
        Run.of("35: NONE: it is missing", all + " sheet(1,0,0) judge(1)=NONE");
        Run.of("35: NONE at first; BEYOND: no such SHEET", "judge(0)=NONE judge(4)=BEYOND judge(-1)=BEYOND",
            "told(2)=1");
    }

    private static void image() {
        Run.of("36: how often that was done", "image()=1 image()=2 image()=3 restore()=0 image()=4");
        Run.of("36: in place of one ahead", "paper(0,5) image()=1 paper(0,6) image()=2 paper(0,7) restore()=0",
            "count(0)=2");
        Run.of("36: it is kept as it was", "flying(0,500,8) image()=1 days(9) change(0,0,1) fold(0,0)=STATE",
            "restore()=0 ofPaper(0,2)=500 ofPaper(0,5)=0");
        Run.of("36: it changes nothing", SOME + "image()=2 count(0)=2 count(6)=5 count(7)=2 ofPaper(1,5)=50");
        Run.of("36: a full one", "8*paper(69,9999) 20*tell(7) 6*feed(49,8) feed(49,2) image()=1 check()=1",
            "text(0)=-11 restore()=0",
            "count(0)=8 count(6)=50 count(7)=20 tell(1)=FULL feed(49,1)=FULL paper(0,0)=FULL");
        Run.of("36: an empty one", "image()=1 paper(0,5) say(5) tell(5) wind(5) seed(5) days(5) going(7) lapse(7)",
            "restore()=0",
            "count(0)=0 count(1)=0 count(2)=0 count(3)=0 count(6)=0 count(7)=0 count(9)=1 law(0,3,9,2)=8",
            "law(1,9,25,6)=2");
    }

    private static void restore() {
        Run.of("37: NONE: there is none", "restore()=NONE paper(0,5) restore()=NONE count(0)=1 image()=1",
            "restore()=0");
        Run.of("37: DAY: the least and the most", "image()=1 restore()=0 166*days(60) days(39) image()=2",
            "restore()=9999 days(1)=STATE");
        Run.of("37: which stays", "paper(0,5) image()=1 change(0,0,6) restore()=0 ofPaper(0,2)=5 change(0,0,7)",
            "restore()=0 ofPaper(0,2)=5");
        Run.of("37: PAPERS: those that are more are no more", "paper(0,5) image() 7*paper(0,6) paper(0,6)=FULL",
            "restore()=0 ofPaper(1,0)=BEYOND paper(69,7)=1 ofPaper(1,2)=7 ofPaper(1,0)=6");
        Run.of("37: PAPERS: KIND, m, DEBT, CREASES, UP, FAR", "flying(14,500,8) change(0,2,77) image()",
            "become(0,60) change(0,0,1) change(0,1,0) fold(0,0) change(0,2,3) restore()=0",
            "ofPaper(0,0)=1 ofPaper(0,1)=4 ofPaper(0,2)=500 ofPaper(0,3)=8 ofPaper(0,4)=1 ofPaper(0,5)=77");
        Run.of("37: DAY, WIND, z", "wind(3) days(7) seed(77) image() loose(9) restore()=7 count(1)=7 count(2)=3",
            "count(9)=77");
        Run.of("37: THE TAPE: how many, and which", "say(5+w) image() going()=1 say(77) restore()=0 count(6)=3",
            "text(0)=1 law(0,4,0,0)=9");
        Run.of("37: TEXTS", "going(5) lapse(6) image() going(7) lapse(8) restore()=0 law(0,0,0,0)=5 law(1,0,0,0)=6");
        Run.of("37: a TEXT that was not there", "image() going(7) restore()=0 law(0,3,9,2)=8");
        Run.of("37: numbers that wait", "paper(0,5) tell(5) tell(5) image() check()=0 tell(9) tell(9) tell(9)",
            "restore()=0 count(7)=2 check()=0");
        Run.of("37: but SHEETS", "paper(0,0) row(0,8,7) image() row(0,16,300) row(1,8,1) restore()=0 debts(0)=1",
            "ofPaper(0,2)=300 debts(1)=1");
        Run.of("37: but SHEETS: one that is missing now", "row(0,8,7) image() sheet(0,0,0) restore()=0",
            "judge(0)=NONE");
        Run.of("37: but THE TRACE", "paper(60,0) voice(0,0,1) image() voice(0,3,1) restore()=0 count(8)=9",
            "trace(0)=71");
        Run.of("37: but what told() tells", "wind(10)=BEYOND image() wind(10)=BEYOND trace(0)=NONE restore()=0",
            "told(1)=2 told(2)=1");
        Run.of("37: but how often this was done", "image()=1 image()=2 restore()=0 image()=3");
    }

    private static void tell() {
        Run.of("38: how many", "tell(0)=1 tell(MAX)=2 tell(MIN)=3 tell(-1000000001)=4 count(7)=4");
        Run.of("38: FULL: 20 wait", "19*tell(7) tell(7)=20 tell(7)=FULL count(7)=20 tell(8)=FULL check()=1",
            "tell(7)=1");
        Run.of("38: FULL: the numbers that wait stay", "paper(0,5) 20*tell(5) tell(6)=FULL check()=0");
    }

    private static void check() {
        Run.of("39: none wait", "check()=0 paper(0,5) check()=0");
        Run.of("39: (none do then): all are so", "paper(0,5) tell(5) tell(5) check()=0 count(7)=0 check()=0");
        Run.of("39: (none do then): one isn't so", "paper(0,5) tell(5) tell(6) check()=2 count(7)=0 check()=0");
        Run.of("39: behind 1 DAY, not now", "flying(10,100,8) tell(99) check()=0 tell(100) check()=1");
        Run.of("39: behind 1, 2, .. DAYS", "flying(10,100,8) tell(99) tell(97) tell(94) tell(90) check()=0",
            "count(1)=0 ofPaper(0,2)=100");
        Run.of("39: 1 and the place (from 0) of the first that isn't so", "flying(10,100,8) tell(98) tell(97)",
            "tell(0) check()=1 tell(99) tell(98) tell(94) check()=2 tell(99) tell(97) tell(95) check()=3");
        Run.of("39: the last of 20", "paper(0,5) 20*tell(5) check()=0 19*tell(5) tell(4) check()=20 19*tell(5)",
            "tell(6) check()=20");
        Run.of("39: no PAPERS", "tell(0) check()=0 tell(1) check()=1 tell(MIN) check()=1");
        Run.of("39: DAY beyond 9999, too", "166*days(60) days(39) flying(0,900,8) lapse(d*10) tell(870) tell(830)",
            "tell(780) tell(720) tell(720) tell(710) check()=0 count(1)=9999");
        Run.of("39: it answers no ERROR", "tell(1) check()=1 told(1)=0 told(2)=0 told(3)=0 told(4)=0 told(5)=0");
    }

    private static void count() {
        Run.bounds("40: what", SOME, "count(@)", 0, 9, BEYOND);
        Run.of("40: 0 PAPERS", "count(0)=0 8*paper(0,0) count(0)=8 paper(0,0)=FULL count(0)=8");
        Run.of("40: 1 DAY", "count(1)=0 166*days(60) days(39) count(1)=9999");
        Run.of("40: 2 WIND", "count(2)=0 wind(9) count(2)=9");
        Run.of("40: 3 DEBT of all together", "count(3)=0 8*paper(0,9999) count(3)=79992");
        Run.of("40: 4 those that are UP, as a set", "8*paper(0,0) count(4)=0 change(7,1,1) count(4)=128",
            "change(0,1,1) count(4)=129");
        Run.of("40: 4 those that are UP: all", "flying(0,0,8) flying(0,0,8) flying(0,0,8) flying(0,0,8)",
            "flying(0,0,8) flying(0,0,8) flying(0,0,8) flying(0,0,8) count(4)=255 count(5)=0");
        Run.of("40: 5 those that are GONE, as a set", "8*paper(0,0) change(7,1,1) change(7,2,100) count(5)=128",
            "change(0,1,1) change(0,2,99) count(5)=128 change(1,2,100) count(5)=128");
        Run.of("40: 6 bytes of THE TAPE", "count(6)=0 6*feed(0,8) feed(0,2) count(6)=50");
        Run.of("40: 7 numbers that wait", "count(7)=0 20*tell(0) count(7)=20");
        Run.of("40: 8 BODIES in THE TRACE", "count(8)=0 paper(60,0) voice(0,3,0) count(8)=9");
        Run.of("40: 9 z (any number)", "count(9)=1 seed(MIN) count(9)=MIN seed(-1000000001) count(9)=-1000000001",
            "told(1)=0");
    }

    private static void told() {
        Run.bounds("41: k 1 .. 5", SOME, "told(@)", 1, 5, BEYOND);
        Run.of("41: BEYOND: another k (counted, too)", "told(0)=BEYOND told(1)=1 told(6)=BEYOND told(1)=2",
            "told(MIN)=BEYOND told(MAX)=BEYOND told(-1)=BEYOND told(1)=5");
        Run.of("41: each by itself", "wind(10)=BEYOND restore()=NONE restore()=NONE 3*sheet(0,8,-1)=STATE",
            "20*tell(0) 4*tell(0)=FULL paper(0,0) 5*as(0,1)=KIND",
            "told(1)=1 told(2)=2 told(3)=3 told(4)=4 told(5)=5");
        Run.of("41: NONE in place of an answer, too", "first(0)=NONE least(1,1)=NONE shapes(1,1,1)=NONE",
            "alike(1)=NONE debtor(0)=NONE trace(0)=NONE told(2)=6");
        Run.of("41: it counts no answers that aren't ERRORS", "text(0)=-10 check()=0 sheet(0,8,0)=1 judge(0)=-1",
            "told(1)=0 told(2)=0 told(3)=0 told(4)=0 told(5)=0");
    }

    /** One refused call of each act for each of its ERRORS, where there is much that it could change. */
    private static void amongMuch() {
        String[] refused = {
            "paper(70,5)=BEYOND", "6*paper(0,0) paper(5,5)=FULL", "ofPaper(2,0)=BEYOND", "change(0,1,2)=BEYOND",
            "fold(1,7)=BEYOND", "fold(0,1)=STATE", "become(1,60) fold(1,4)=STATE", "release(2)=BEYOND",
            "release(0)=STATE",
            "paper(0,9) release(2)=STATE", "wind(10)=BEYOND", "become(1,70)=BEYOND", "as(1,7)=BEYOND", "as(0,2)=KIND",
            "feed(49,9)=BEYOND", "5*feed(49,8) feed(49,6)=FULL", "text(2)=BEYOND", "law(2,1,1,1)=BEYOND",
            "days(61)=BEYOND", "166*days(60) days(33)=STATE", "loose(41)=BEYOND", "166*days(60) loose(33)=STATE",
            "shape(128,0)=BEYOND", "least(9,1)=BEYOND", "least(1,7)=NONE", "shapes(9,1,0)=BEYOND", "shapes(1,7,1)=NONE",
            "way(1,128)=BEYOND", "become(1,60) way(1,127)=NONE", "open(1,9)=BEYOND", "alike(2)=BEYOND", "alike(1)=NONE",
            "then(61,0,0)=BEYOND", "first(2)=BEYOND", "change(0,1,0) first(0)=NONE", "best(0,61,0)=BEYOND",
            "fits(2,2)=BEYOND", "fits(3,0)=NONE", "fits(0,0)=NONE", "put(2,2,61) fits(2,0)=NONE", "owed(61)=BEYOND",
            "debtor(31)=BEYOND", "odds(0,2)=BEYOND", "voice(0,4,1)=BEYOND", "trace(5)=NONE", "sheet(0,7,1)=BEYOND",
            "sheet(0,8,-1)=STATE", "sheet(0,8,41)=BEYOND", "put(4,0,5)=BEYOND", "put(3,0,5)=NONE", "put(1,3,5)=BEYOND",
            "move(0,0,4,0,1)=BEYOND", "move(0,0,3,0,1)=NONE", "move(0,0,1,0,1)=KIND", "move(1,1,1,0,3)=BEYOND",
            "move(1,0,1,1,3)=BEYOND", "move(1,0,1,1,-1)=BEYOND", "debts(4)=BEYOND", "debts(3)=NONE", "judge(4)=BEYOND",
            "judge(3)=NONE", "18*tell(7) tell(8)=FULL", "count(10)=BEYOND", "told(6)=BEYOND"};
        String sentence = "one that answers an ERROR changes nothing but what told() tells";
        for (String call : refused) Run.of(sentence, SOME + call);
        Run.of(sentence, SOME.replace("image() ", "") + "restore()=NONE");
        Run.of(sentence,
            "wind(3) days(7) seed(77) lapse(o/9+d) going(9+b-h) row(0,16,8,36) row(1,8,1,2,3) say(w*2) tell(0) image()",
            "say(+1) tell(0) debtor(5)=NONE");
    }
}
