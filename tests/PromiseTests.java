/** For each promise: ordinary inputs, the edges that the document names, and wrong inputs. */
public final class PromiseTests {

    private static final long NO = ChanceSteps.NO;
    private static final int BAD = -2, STATE = -3, FULL = -4, WIDE = -6, VOID = -7;
    private static final int MIN = Integer.MIN_VALUE, MAX = Integer.MAX_VALUE;

    private static final String COIN = "draw a 0:1,1:1";
    private static final String DICE = "draw a 1:1,2:2,3:1;draw b 0:1,1:1;let c a+b;see c<4";
    private static final String NEVER = "see 0";
    private static final String WIDEST = "draw a 0:1,1:1,2:1,3:1,4:1,5:1,6:1,7:1;"
        + "draw b 0:1,1:1,2:1,3:1,4:1,5:1,6:1,7:1;draw c 0:4,1:4,2:4,3:2,4:2";

    private static int wrong = 0;
    private static int asked = 0;

    public static void main(String[] args) {
        promise1(); promise2(); promise3(); faultsOfTokens(); faultsOfSteps(); faultsOfLots(); faultsOfFormulas();
        fullTexts(); promise4(); promise5(); promise6(); promise7(); formulas();
        promise8(); promise9(); runsAnew(); promise10(); promise11(); promise12(); promise13();
        promise14(); promise15(); wideness(); promise16(); promise17(); promise18();
        promise19(); promise20(); promise21And22(); promise23(); promise24(); promise25(); promise26();
        readme();
        System.out.println(asked + " answers asked, " + wrong + " are not as due");
        if (wrong != 0) System.exit(1);
    }

    private static void due(String call, long got, long want) {
        asked++;
        if (got != want) {
            wrong++;
            System.out.println(call + " answered " + got + ", due is " + want);
        }
    }

    private static void due(String call, long above, long below, long wantAbove, long wantBelow) {
        due(call + ", above", above, wantAbove);
        due(call + ", below", below, wantBelow);
    }

    private static void feed(ChanceSteps x, String text) {
        for (int i = 0; i < text.length(); i++) {
            due("feed of " + text, x.feed(1, text.charAt(i), 0, 0, 0, 0), x.count(1));
        }
    }

    private static int read(ChanceSteps x, String text) {
        feed(x, text);
        return x.program();
    }

    private static ChanceSteps with(String... texts) {
        ChanceSteps x = new ChanceSteps();
        for (int i = 0; i < texts.length; i++) {
            due("program() of " + texts[i], read(x, texts[i]), i);
        }
        return x;
    }

    private static void fault(String text, int place) {
        ChanceSteps x = new ChanceSteps();
        due("program() of " + text, read(x, text), -100 - place);
        due("THE TAPE behind a FAULT", x.count(1), 0);
        due("PROGRAMS behind a FAULT", x.count(0), 0);
    }

    private static void odds(ChanceSteps x, int program, int name, int v, long above, long below) {
        due("odds(" + program + ", " + name + ", " + v + ")",
            x.odds(program, name, v, 0), x.odds(program, name, v, 1), above, below);
    }

    // ---- programs

    private static void promise1() {
        ChanceSteps x = new ChanceSteps();
        due("PROGRAMS at first", x.count(0), 0);
        due("THE TAPE at first", x.count(1), 0);
        due("THE START at first", x.count(2), 0);
        due("left without a PROGRAM", x.left(0, 0), NO);
        due("told without a PROGRAM", x.told(0, 0), BAD);
        due("back without THE IMAGE", x.back(), STATE);
        for (int s = 0; s < 4; s++) due("cell of a SHEET missing at first", x.cell(s, 0, 0), -11);
        due("NONE", ChanceSteps.NONE, -1);
        due("BAD", ChanceSteps.BAD, -2);
        due("STATE", ChanceSteps.STATE, -3);
        due("FULL", ChanceSteps.FULL, -4);
        due("WIDE", ChanceSteps.WIDE, -6);
        due("VOID", ChanceSteps.VOID, -7);
        due("NO", ChanceSteps.NO, -(1L << 62));
    }

    private static void promise2() {
        ChanceSteps x = new ChanceSteps();
        due("feed of 1", x.feed(1, 0, 0, 0, 0, 0), 1);
        due("feed of 5", x.feed(5, 255, 0, 1, 2, 3), 6);
        due("feed of 0", x.feed(0, 0, 0, 0, 0, 0), BAD);
        due("feed of 6", x.feed(6, 0, 0, 0, 0, 0), BAD);
        due("feed of a -1", x.feed(1, -1, 0, 0, 0, 0), BAD);
        due("feed of a 256", x.feed(1, 256, 0, 0, 0, 0), BAD);
        due("feed of b 256, not asked", x.feed(1, 0, 256, 0, 0, 0), BAD);
        due("feed of c -1, not asked", x.feed(1, 0, 0, -1, 0, 0), BAD);
        due("feed of d 256, not asked", x.feed(1, 0, 0, 0, 256, 0), BAD);
        due("feed of e -1, not asked", x.feed(1, 0, 0, 0, 0, -1), BAD);
        due("feed of MIN", x.feed(MIN, 0, 0, 0, 0, 0), BAD);
        due("THE TAPE behind BAD", x.count(1), 6);
        for (int i = 0; i < 22; i++) x.feed(5, 32, 32, 32, 32, 32);
        due("THE TAPE", x.count(1), 116);
        due("feed of one too many", x.feed(5, 32, 32, 32, 32, 32), FULL);
        due("BAD ahead of FULL", x.feed(5, 32, 32, 32, 32, 256), BAD);
        due("THE TAPE behind FULL", x.count(1), 116);
        due("feed of just as many", x.feed(4, 32, 32, 32, 32, 32), 120);
        due("feed of one more", x.feed(1, 32, 32, 32, 32, 32), FULL);
        // in their order: the SIGN that begins none is the third
        ChanceSteps y = new ChanceSteps();
        y.feed(5, 's', 'e', 'e', ' ', 35);
        due("the bytes stand in their order", y.program(), -104);
    }

    private static void promise3() {
        ChanceSteps x = with("let a 1", "let a 2", "let a 3", "let a 4", "let a 5", "let a 6");
        odds(x, 5, 0, 6, 1, 1);
        feed(x, "let a 7");
        due("a 7th PROGRAM", x.program(), FULL);
        due("THE TAPE behind a 7th PROGRAM", x.count(1), 7);
        due("a 7th PROGRAM again", x.program(), FULL);
        due("PROGRAMS", x.count(0), 6);
        ChanceSteps y = new ChanceSteps();
        due("an empty text", y.program(), -100);
        feed(y, "let a 7");
        due("a text", y.program(), 0);
        due("THE TAPE behind a PROGRAM", y.count(1), 0);
        due("a text with a FAULT", read(y, "let a"), -105);
        due("THE TAPE behind a FAULT", y.count(1), 0);
        due("PROGRAMS behind a FAULT", y.count(0), 1);
        odds(y, 0, 0, 7, 1, 1);
        // nothing of a text with a FAULT is left for the next one
        ChanceSteps z = new ChanceSteps();
        due("a FAULT in open BLOCKS", read(z, "loop 2{loop 2{if (a<(b+(c{"), -123);
        due("4 open behind it", read(z, "loop 1{loop 1{see ((1))}};see ----1"), 0);
        due("a text that SEES", read(z, "see f;loop 2{draw b 0:2;run c 0 d;see a}"), 1);
        z.back();
        ChanceSteps often = new ChanceSteps();
        for (int i = 0; i < 30; i++) {
            due("a long text with a FAULT", read(often, "draw a 0:1,1:1,2:1,3:1;draw b 0:1,1:1,2:1,3:1;let c a+b*a+b*a+b*a+b*a+b+"), -172);
        }
        due("a text behind many", read(often, "draw a 3:1,5:1;let b a+1"), 0);
        odds(often, 0, 1, 6, 1, 2);
        odds(often, 0, 1, 4, 1, 2);
        ChanceSteps w = new ChanceSteps();
        w.image();
        due("a text that SEES", read(w, "let a b+c+d;loop 9{draw e 0:16;see f}"), 0);
        w.back();
        due("one in its place that doesn't", read(w, "loop 2{see 1;let a 1};draw a 0:2;draw b 1:2"), 0);
        w.back();
        due("one in its place", read(w, "draw a 2:2"), 0);
        due("it doesn't SEE", w.told(0, 2), 0);
        due("its NAMES", w.told(0, 3), 1);
        due("its BITS", w.told(0, 1), 1);
        due("its STEPS", w.told(0, 0), 1);
        due("NAMES in its E", w.step(0, 0, 4), 0);
        due("a RUN of it", read(w, "run c 0 0"), 1);
        due("that isn't NEEDED", w.needed(1, 2), 2);
        due("that doesn't SEE", w.told(1, 2), 0);
    }

    private static void faultsOfTokens() {
        fault("  \n ", 4);
        fault("LET a 1", 0);
        fault("let a 1\t", 7);
        fault("let a #", 6);
        fault("leta 1", 0);
        fault("le a 1", 0);
        fault("lets a 1", 0);
        fault(" jump", 1);
        fault("let let 1", 4);
        fault("let ab 1", 4);
        fault("let g 1", 4);
        fault("let a g", 6);
        fault("let a see", 6);
        fault("let a 100", 6);
        fault("let a 001", 6);
        fault("let a 1 2", 8);
        fault("let a 1b", 7);
        fault("let a 1>2", 7);
        fault("let az 1", 4);
        fault("met a 1", 0);
        fault("pee 1", 0);
        fault("of 1{see 1}{see 1}", 0);
        fault("sees 1", 0);
        fault("drawn a 0:2", 0);
        fault("a", 0);
        fault("1", 0);
        fault(";", 0);
        ChanceSteps x = with("let\na\n01", "draw a0 :1\n, 1:1;loop2{see 1}", "let a 99");
        odds(x, 0, 0, 1, 1, 1);
        odds(x, 2, 0, 9, 1, 1);
    }

    private static void faultsOfSteps() {
        fault("let a 1;", 8);
        fault("let a 1;;", 8);
        fault("let a 1}", 7);
        fault("let a 1)", 7);
        fault("let a 1 let b 2", 8);
        fault("let 1 a", 4);
        fault("let a", 5);
        fault("let", 3);
        fault("draw", 4);
        fault("see", 3);
        fault("loop a{see 1}", 5);
        fault("loop 10{see 1}", 5);
        fault("loop 2 see 1", 7);
        fault("loop 2{}", 7);
        fault("loop 2{see 1;}", 13);
        fault("loop 2{see 1", 12);
        fault("loop 2(see 1)", 6);
        fault("if a{see 1}", 11);
        fault("if a{see 1}see 1", 11);
        fault("if a{see 1};{see 1}", 11);
        fault("if{see 1}{see 1}", 2);
        fault("run a 0 1", 6);
        fault("run 0 0 1", 4);
        fault("run a b 1", 6);
        // 4 open are as told, a 5th is not
        due("4 open {", read(new ChanceSteps(), "loop 1{loop 1{loop 1{loop 1{see 1}}}}"), 0);
        fault("loop 1{loop 1{loop 1{loop 1{loop 1{see 1}}}}}", 34);
        fault("loop 1{loop 1{loop 1{loop 1{if 1{see 1}{see 1}}}}}", 32);
        due("{ closed again", read(new ChanceSteps(), "loop 1{loop 1{loop 1{if 1{see 1}{see 1}}}};loop 1{see 1}"), 0);
        // 16 STEPS are as told, a 17th is not
        StringBuilder s = new StringBuilder("loop 1{see 1");
        for (int i = 0; i < 14; i++) s.append(";see 1");
        due("16 STEPS", read(new ChanceSteps(), s + "}"), 0);
        fault(s + ";see 1}", s.length() + 1);
        fault(s + "};see 1", s.length() + 2);
        fault(s + "};", s.length() + 2);
        ChanceSteps x = with("let a 1");
        due("run of one not there", read(x, "run a 1 0"), -106);
        due("run without E", read(x, "run a 0"), -107);
        due("run with two E", read(x, "run a 0 1 2"), -110);
        due("run of one that there is", read(x, "run a 00-1"), 1);
        due("run of itself", read(x, "run a 2 0"), -106);
    }

    private static void faultsOfLots() {
        fault("draw 0:1,1:1", 5);
        fault("draw a", 6);
        fault("draw a 0", 8);
        fault("draw a 0,1", 8);
        fault("draw a 0:", 9);
        fault("draw a 0:1", 10);
        fault("draw a 0:1 ", 11);
        fault("draw a 0:1;see 1", 10);
        fault("draw a 0:1,", 11);
        fault("draw a 0:1,1:1,", 15);
        fault("draw a 0:1,b", 11);
        fault("draw a 0:1,1,0:1", 12);
        fault("draw a 0,1:1", 8);
        fault("draw a 10:1,1:1", 7);
        fault("draw a b:1,1:1", 7);
        fault("draw a 0:0,1:2", 9);
        fault("draw a 0:17", 9);
        fault("draw a 0:b", 9);
        fault("draw a -1:2", 7);
        fault("draw a 0:1,1:2", 14);
        fault("draw a 0:1,1:2;see 1", 14);
        fault("draw a 0:16,1:16", 16);
        fault("draw a 0:1,1:5 #", 15);
        fault("loop 1{draw a 0:5}", 17);
        fault("draw a 0:1,1:1,2:1,3:1,4:1,5:1,6:1,7:1,8:1", 38);
        fault("draw a 0:1,1:1,2:1,3:1,4:1,5:1,6:1,7:2,8:1", 38);
        fault("draw a 0:1,1:1,2:1,3:1,4:1,5:1,6:1,7:2", 38);
        due("8 LOTS", read(new ChanceSteps(), "draw a 0:1,1:1,2:1,3:1,4:1,5:1,6:1,7:1"), 0);
        due("one LOT", read(new ChanceSteps(), "draw a 9:16"), 0);
        due("one LOT of 2", read(new ChanceSteps(), "draw a 9:2"), 0);
        due("a LOT of two digits", read(new ChanceSteps(), "draw a 09:04"), 0);
    }

    private static void faultsOfFormulas() {
        fault("see", 3);
        fault("see +1", 4);
        fault("see 1+", 6);
        fault("see 1*", 6);
        fault("see 1<", 6);
        fault("see 1<2<3", 7);
        fault("see 1=2=3", 7);
        fault("see 1<2=3", 7);
        fault("see (1<2", 8);
        fault("see (1", 6);
        fault("see ()", 5);
        fault("see (1}", 6);
        fault("see 1 1", 6);
        fault("see 1(1)", 5);
        fault("see 1*%2", 6);
        fault("see ((((((1))))))", 8);
        fault("see -----1", 8);
        fault("see -(-((1)))", 8);
        fault("loop 1{see (((-1)))}", 14);
        fault("loop 1{loop 1{loop 1{loop 1{see (1)}}}}", 32);
        fault("loop 1{loop 1{loop 1{loop 1{see -1}}}}", 32);
        due("4 open", read(new ChanceSteps(), "see ----1;see -(-(1));see ((((a))))+((((b))))"), 0);
        due("- and ( that end", read(new ChanceSteps(), "see ---1----1;see (((1)+(2))+(3))-(4)"), 0);
        due("4 open with {", read(new ChanceSteps(), "loop 1{loop 1{loop 1{see -1;see (1)}}}"), 0);
        due("a - between is none ahead of a ONE", read(new ChanceSteps(), "loop 1{loop 1{loop 1{loop 1{see 2-1-1-1}}}}"), 0);
        due("< in ( and behind", read(new ChanceSteps(), "see (1<2)<(3=3)"), 0);
    }

    private static void fullTexts() {
        ChanceSteps x = new ChanceSteps();
        due("54 BITS", read(x, "loop 9{draw a 0:8,1:8;draw b 1:4}"), FULL);
        due("THE TAPE behind too many BITS", x.count(1), 0);
        due("PROGRAMS behind too many BITS", x.count(0), 0);
        due("50 BITS", read(x, "loop 9{draw a 0:8,1:8;draw b 0:1,1:1};loop 5{draw a 0:1,1:1}"), 0);
        due("its BITS", x.told(0, 1), 50);
        due("51 BITS by a RUN", read(x, "run a 0 0;draw b 0:1,1:1"), FULL);
        due("50 BITS by a RUN", read(x, "run a 0 0;let b 1"), 1);
        due("61 TURNS", read(x, "loop 9{loop 5{see 1}};loop 4{see 1};see 1"), FULL);
        due("60 TURNS", read(x, "loop 9{loop 5{see 1}};loop 4{see 1}"), 2);
        due("its TURNS", x.told(2, 6), 60);
        due("61 TURNS by a RUN", read(x, "run a 2 0"), FULL);
        due("THE TAPE behind too many TURNS", x.count(1), 0);
        due("very many", read(x, "loop 9{loop 9{loop 9{loop 9{run a 0 1;draw a 0:16}}}}"), FULL);
        due("none of very many", read(x, "loop 0{loop 9{loop 9{loop 9{run a 0 1;draw a 0:16}}}}"), 3);
        due("its BITS", x.told(3, 1), 0);
        due("its TURNS", x.told(3, 6), 1);
        odds(x, 3, 0, 0, 1, 1);
        due("a FAULT ahead of FULL", read(x, "loop 9{loop 9{see 1}};"), -122);
    }

    private static void promise4() {
        ChanceSteps x = with("let b a+1;let a 0");
        due("let(0, 9)", x.let(0, 9), 0);
        due("let(0, 3)", x.let(0, 3), 9);
        due("let(5, 7)", x.let(5, 7), 0);
        due("let(1, 1)", x.let(1, 1), 0);
        due("THE START", x.count(2), 310007);
        odds(x, 0, 1, 4, 1, 1);
        due("let(0, 4)", x.let(0, 4), 3);
        odds(x, 0, 1, 5, 1, 1);
        due("name -1", x.let(-1, 0), BAD);
        due("name 6", x.let(6, 0), BAD);
        due("v -1", x.let(0, -1), BAD);
        due("v 10", x.let(0, 10), BAD);
        due("name MAX", x.let(MAX, MIN), BAD);
        due("THE START behind BAD", x.count(2), 410007);
    }

    private static void promise5() {
        ChanceSteps x = with(DICE, "if a<b{draw c 0:4;draw d 1:8}{loop 3{draw e 0:1,1:1;let f c}};run b 0 d",
            "loop 3{run a 1 0};let a 1", NEVER, WIDEST, "run c 2 b");
        long[][] want = {
            {4, 3, 1, 7, 0, 5, 4}, {7, 8, 1, 63, 0, 6, 15}, {3, 24, 1, 1, 0, 1, 50},
            {1, 0, 1, 0, 0, 0, 1}, {3, 10, 0, 7, 1, WIDE, 3}, {1, 24, 1, 6, 0, 1, 51}};
        for (int p = 0; p < 6; p++) {
            for (int what = 0; what < 7; what++) {
                due("told(" + p + ", " + what + ")", x.told(p, what), want[p][what]);
            }
        }
        due("what -1", x.told(0, -1), BAD);
        due("what 7", x.told(0, 7), BAD);
        due("program -1", x.told(-1, 0), BAD);
        due("program 6", x.told(6, 0), BAD);
        due("program MAX", x.told(MAX, 0), BAD);
        due("doesn't SEE", with("let a 1;loop 2{if a{let a 1}{draw a 1:2}}").told(0, 2), 0);
        due("SEES in a BLOCK, never gone through", with("loop 0{if 0{let a 1}{see a}}").told(0, 2), 1);
        due("no NAMES of what it RUNS", with("let d e", "run a 0 b").told(1, 3), 3);
    }

    private static void promise6() {
        ChanceSteps x = with("let a 5", "draw b 3:1,4:1,4:2;if a+c{let d f;loop 3{see (b=e)}}{run e 0 a+a%b}");
        long[][] want = {
            {0, 1, 1, 2, 0, 3}, {3, -1, 5, 0, 5, -1}, {1, 3, 1, 0, 32, -1},
            {4, -1, 2, 0, 0, 3}, {2, -1, 1, 0, 18, -1}, {5, 4, 1, 0, 3, 0}};
        for (int i = 0; i < 6; i++) {
            for (int what = 0; what < 6; what++) {
                due("step(1, " + i + ", " + what + ")", x.step(1, i, what), want[i][what]);
            }
        }
        due("step -1", x.step(1, -1, 0), -12);
        due("step 6", x.step(1, 6, 0), -12);
        due("step MAX", x.step(1, MAX, 0), -12);
        due("BAD ahead of -12", x.step(1, 6, 6), BAD);
        due("what -1", x.step(1, 0, -1), BAD);
        due("program 2", x.step(2, 0, 0), BAD);
        due("program -1", x.step(-1, 0, 0), BAD);
        ChanceSteps y = with("draw a 0:16", "loop 2{if 0{loop 3{run a 0 1}}{draw a 1:2};draw b 0:2}");
        due("BITS of a LOOP", y.step(1, 0, 3), 26);
        due("BITS of an IF", y.step(1, 1, 3), 12);
        due("BITS of a LOOP in it", y.step(1, 2, 3), 12);
        due("BITS of a RUN", y.step(1, 3, 3), 4);
        due("BITS of a DRAW", y.step(1, 4, 3), 1);
        due("STEPS in a LOOP", y.step(1, 0, 2), 6);
        due("STEPS in an IF", y.step(1, 1, 2), 4);
        due("LOTS of a DRAW", y.step(1, 4, 5), 1);
    }

    private static void promise7() {
        ChanceSteps x = with("let a 5", "draw b 3:4;let a 1;see 1;if 1{see 1}{see 2};loop 1{see 1};run a 0 1");
        int[] places = {0, 1, 2, 3, 6, 8};
        long[][] want = {
            {0, -13, -13}, {1, -13, 1}, {-13, -13, 2}, {-13, 3, 3}, {-13, 4, -13}, {5, -13, 5}};
        for (int i = 0; i < 6; i++) {
            for (int group = 0; group < 3; group++) {
                due("taken(1, " + places[i] + ", " + group + ")", x.taken(1, places[i], group), want[i][group]);
            }
        }
        due("step -1", x.taken(1, -1, 0), -12);
        due("step 9", x.taken(1, 9, 0), -12);
        due("BAD ahead of -12", x.taken(1, 9, 3), BAD);
        due("group -1", x.taken(1, 0, -1), BAD);
        due("program 2", x.taken(2, 0, 0), BAD);
        due("program MIN", x.taken(MIN, 0, 0), BAD);
    }

    private static void formulas() {
        String[] of = {"7-3-2", "7-(3-2)", "2+3*4", "20%7*2", "2*20%7", "-7%4", "7%-4", "7%0", "0-3", "-13", "1<2", "2<2",
            "2=2", "1=2", "1+1=2", "3<2+2", "-2*3", "--5", "99*99", "(1<2)+(2=2)", "1-1<1", "99*99*99*99*99", "5%(1=2)",
            "(0-99*99*99*99*21-49)%(0-1)", "a-b%c"};
        int[] is = {2, 6, 14, 12, 5, -3, 3, 0, -3, -13, 1, 0, 1, 0, 1, 1, -6, 5, 9801, 2, 1,
            99 * 99 * 99 * 99 * 99, 0, 0, 2};
        for (int i = 0; i < of.length; i++) {
            ChanceSteps x = with("let a 7;let b 5;let c 8;let d " + of[i], "see " + of[i]);
            odds(x, 0, 3, Math.floorMod(is[i], 10), 1, 1);
            x = with("let a 7;let b 5;let c 8;see " + of[i]);
            due("left by " + of[i], x.left(0, 0), is[i] == 0 ? 0 : 1);
        }
    }

    // ---- odds

    private static void promise8() {
        ChanceSteps x = with(DICE, COIN, NEVER, WIDEST, "draw a 0:1,1:7;see a;draw b 0:1,1:15;see b;see 1",
            "loop 9{draw a 0:15,1:1;see a;draw b 0:1,1:1};see a=b");
        due("left", x.left(0, 0), x.left(0, 1), 7, 8);
        due("left of all", x.left(1, 0), x.left(1, 1), 1, 1);
        due("left of VOID", x.left(2, 0), x.left(2, 1), 0, 1);
        due("left of WIDE", x.left(3, 0), x.left(3, 1), NO, NO);
        due("left twice", x.left(4, 0), x.left(4, 1), 105, 128);
        due("left of 37 BITS", x.left(5, 0), x.left(5, 1), 1, 1L << 37);
        due("part 2", x.left(0, 2), NO);
        due("part -1", x.left(0, -1), NO);
        due("program 6", x.left(6, 0), NO);
        due("program -1", x.left(-1, 0), NO);
    }

    private static void promise9() {
        ChanceSteps x = with(DICE, "draw a 0:1,1:1,0:2;if a{draw b 1:1,2:3}{draw b 1:2}", NEVER, WIDEST,
            "loop 4{draw b 0:1,1:1;let a a+b}", "let f 3;see f=3");
        odds(x, 0, 2, 3, 3, 7);
        odds(x, 0, 2, 4, 0, 1);
        odds(x, 0, 5, 0, 1, 1);
        odds(x, 1, 0, 0, 3, 4);
        odds(x, 1, 1, 1, 13, 16);
        odds(x, 1, 1, 2, 3, 16);
        odds(x, 2, 0, 0, NO, NO);
        odds(x, 3, 0, 0, NO, NO);
        odds(x, 4, 0, 2, 3, 8);
        odds(x, 4, 0, 4, 1, 16);
        odds(x, 5, 5, 3, 1, 1);
        odds(x, 6, 0, 0, NO, NO);
        odds(x, -1, 0, 0, NO, NO);
        odds(x, 0, -1, 0, NO, NO);
        odds(x, 0, 6, 0, NO, NO);
        odds(x, 0, 0, -1, NO, NO);
        odds(x, 0, 0, 10, NO, NO);
        due("part 2", x.odds(0, 0, 0, 2), NO);
        due("part -1", x.odds(0, 0, 0, -1), NO);
    }

    private static void runsAnew() {
        ChanceSteps x = with(COIN, "run a 0 0;run b 0 0;let c a", "draw b 0:1,1:1;let a a+b;see a<9",
            "draw c 8:1,9:1;run a 2 c+10;see a=8", "let b 5;let d 7;let a b+d+a", "run f 4 d;let e b");
        // drawn anew, but a copy is the same
        due("two RUNS are APART", x.apart(1, 0, 1), 1);
        due("a copy isn't", x.apart(1, 0, 2), 0);
        odds(x, 1, 1, 1, 1, 2);
        // 8 stays by 1/2, 9 never is seen as 8 and goes on by 0, 10 is 0
        due("left where what is RUN SEES", x.left(3, 0), x.left(3, 1), 1, 4);
        odds(x, 3, 2, 8, 1, 1);
        x.let(3, 4);
        x.let(1, 9);
        // what is RUN begins with a alone, and leaves all other NAMES as they are
        odds(x, 5, 5, 6, 1, 1);
        odds(x, 5, 4, 9, 1, 1);
        odds(x, 5, 1, 9, 1, 1);
        odds(x, 5, 3, 4, 1, 1);
        // 24 BITS twice, the products are whole
        ChanceSteps y = with("loop 6{draw b 0:1,1:15;let a a+(b=0)}", "run a 0 0;run b 0 0;see a=6;see b=6");
        due("left of 48 BITS", y.left(1, 0), y.left(1, 1), 1, 1L << 48);
        y = with("loop 6{draw b 0:1,1:15;let a a+(b=0)};draw b 0:1,1:1;let a a+(b=0)", "run a 0 0;run b 0 0;see a=7;see b=7");
        due("left of 50 BITS", y.left(1, 0), y.left(1, 1), 1, 1L << 50);
        // as deep as can be: six within one another, four BLOCKS in each; each DIGIT once
        y = with("loop 1{if a<9{loop 1{if 1{let a a+1}{see 0}}}{if a=9{let a 9}{see 0}}}", "loop 1{loop 1{loop 1{if 0{see 0}{run a 0 a}}}}",
            "loop 1{loop 1{if 0{see 0}{loop 1{run a 1 a}}}}", "if 0{see 0}{loop 1{loop 1{loop 1{run a 2 a}}}}",
            "loop 1{loop 1{loop 1{loop 1{run a 3 a}}}}", "loop 1{loop 1{loop 1{loop 1{run a 4 a}}}}");
        for (int a = 0; a < 10; a++) {
            y.let(0, a);
            odds(y, 5, 0, Math.min(a + 1, 9), 1, 1);
            due("as deep as can be, by a SEED", y.comes(5, a), Math.min(a + 1, 9) * 100000);
            due("as deep as can be, peak", y.peak(5, 1), 1);
        }
        // all others are 0 where what is RUN begins, by seeds too
        y = with("let a a+b+c+d+e+f", "let f 3;let b 2;run c 0 4;run d 0 f");
        y.let(4, 9);
        y.let(2, 1);
        odds(y, 1, 2, 4, 1, 1);
        odds(y, 1, 3, 3, 1, 1);
        due("by a SEED", y.comes(1, 0), 24393);
        due("all others stay", y.likeliest(1, 6), 24393);
    }

    private static void promise10() {
        ChanceSteps x = with(DICE, NEVER, WIDEST, "let a 9;let b 9;let c 9;let d 9;let e 9;let f 9");
        due("state", x.state(0, 213000, 0), x.state(0, 213000, 1), 2, 7);
        due("state that can't be", x.state(0, 999999, 0), x.state(0, 999999, 1), 0, 1);
        due("all 9", x.state(3, 999999, 0), x.state(3, 999999, 1), 1, 1);
        ChanceSteps y = with("draw a 0:1,1:3");
        due("state 0", y.state(0, 0, 0), y.state(0, 0, 1), 1, 4);
        due("state 100000", y.state(0, 100000, 0), y.state(0, 100000, 1), 3, 4);
        due("state 10000", y.state(0, 10000, 0), 0);
        due("state 1000000", x.state(0, 1000000, 0), NO);
        due("state -1", x.state(0, -1, 0), NO);
        due("part 2", x.state(0, 0, 2), NO);
        due("part -1", x.state(0, 0, -1), NO);
        due("program 4", x.state(4, 0, 0), NO);
        due("program -1", x.state(-1, 0, 0), NO);
        due("VOID", x.state(1, 0, 0), NO);
        due("WIDE", x.state(2, 0, 0), NO);
    }

    private static void promise11() {
        ChanceSteps x = with(DICE, NEVER, WIDEST, "draw a 0:1,9:3");
        long[][] want = {{16, 7}, {40, 7}, {3, 7}, {106, 7}, {4, 7}, {47, 7}};
        long[][] of3 = {{27, 4}, {243, 4}, {1, 4}, {2187, 4}, {3, 4}, {9, 4}};
        for (int kind = 0; kind < 6; kind++) {
            due("fold by " + kind, x.fold(0, 2, kind, 0), x.fold(0, 2, kind, 1), want[kind][0], want[kind][1]);
            due("fold by " + kind, x.fold(3, 0, kind, 0), x.fold(3, 0, kind, 1), of3[kind][0], of3[kind][1]);
        }
        due("MEAN of 0", x.fold(0, 5, 0, 0), x.fold(0, 5, 0, 1), 0, 1);
        due("kind -1", x.fold(0, 0, -1, 0), NO);
        due("kind 6", x.fold(0, 0, 6, 0), NO);
        due("name -1", x.fold(0, -1, 0, 0), NO);
        due("name 6", x.fold(0, 6, 0, 0), NO);
        due("part 2", x.fold(0, 0, 0, 2), NO);
        due("part -1", x.fold(0, 0, 0, -1), NO);
        due("program 4", x.fold(4, 0, 0, 0), NO);
        due("VOID", x.fold(1, 0, 0, 0), NO);
        due("WIDE", x.fold(2, 0, 0, 0), NO);
    }

    private static void promise12() {
        ChanceSteps x = with(DICE, NEVER, WIDEST, "draw b 7:1,3:1;draw f 9:3,8:1", "draw b 9:1,2:1,1:2");
        due("likeliest(0, 0)", x.likeliest(0, 0), 2);
        due("likeliest(0, 2)", x.likeliest(0, 2), 2);
        due("likeliest STATE", x.likeliest(0, 6), 202000);
        due("the least of like ones", x.likeliest(3, 1), 3);
        due("the likeliest", x.likeliest(3, 5), 9);
        due("the least of like STATES", x.likeliest(3, 6), 30009);
        due("the likeliest of 3", x.likeliest(4, 1), 1);
        ChanceSteps y = with("draw a 0:1,1:1", "draw a 5:2,0:1,3:1", "draw a 3:1,2:1,4:2", "draw f 1:1,0:2,2:1", "draw a 1:1,0:1;draw f 1:1,0:1");
        int[][] values = {{0, 0}, {5, 500000}, {4, 400000}, {0, 0}, {0, 0}};
        for (int p = 0; p < 5; p++) {
            due("likeliest VALUE by " + p, y.likeliest(p, p == 3 ? 5 : 0), values[p][0]);
            due("likeliest STATE by " + p, y.likeliest(p, 6), values[p][1]);
        }
        due("name 7", x.likeliest(0, 7), BAD);
        due("name -1", x.likeliest(0, -1), BAD);
        due("program 5", x.likeliest(5, 0), BAD);
        due("BAD ahead of WIDE", x.likeliest(2, 7), BAD);
        due("WIDE", x.likeliest(2, 6), WIDE);
        due("VOID", x.likeliest(1, 6), VOID);
    }

    private static void promise13() {
        ChanceSteps x = with("draw a 0:1,1:1;draw b 0:1,1:1;let c a+b;let d a=b;see c<2;draw e 0:1,1:3",
            NEVER, WIDEST, "draw a 0:1,1:1;draw b 0:1,1:1;let c (a+b)%2",
            "loop 9{draw a 1:1,2:1;draw a 3:1,4:1;draw b 1:1,2:1};let c 3");
        due("hang together by what was seen", x.apart(0, 0, 1), 0);
        due("the other way", x.apart(0, 1, 0), 0);
        due("c and a", x.apart(0, 2, 0), 0);
        due("a and e", x.apart(0, 0, 4), 1);
        due("one and the same", x.apart(0, 0, 0), 0);
        due("one and the same that is sure", x.apart(0, 5, 5), 1);
        due("the sum of two that are APART", x.apart(3, 2, 0), 1);
        due("of many BITS", x.apart(4, 0, 1), 1);
        due("of many BITS, the same", x.apart(4, 1, 1), 0);
        due("name -1", x.apart(0, -1, 0), BAD);
        due("name 6", x.apart(0, 6, 0), BAD);
        due("other 6", x.apart(0, 0, 6), BAD);
        due("other -1", x.apart(0, 0, -1), BAD);
        due("program 5", x.apart(5, 0, 0), BAD);
        due("BAD ahead of WIDE", x.apart(2, 0, 6), BAD);
        due("WIDE", x.apart(2, 0, 0), WIDE);
        due("VOID", x.apart(1, 0, 0), VOID);
    }

    private static void promise14() {
        ChanceSteps x = with("draw a 0:1,1:1;let b a+c;let d b", "see e;let a 1", "if a{let b c}{let b d}",
            "loop 3{let a b;let b c;let c d;let d e}", "run a 0 b;run c 1 d", "let a a+b;loop 0{see c}");
        int[][] want = {{0, 0, 0}, {0, 1, 0}, {0, 2, 4}, {0, 8, 4}, {0, 63, 52},
            {1, 1, 16}, {1, 2, 18}, {2, 2, 13}, {2, 1, 1}, {2, 0, 1},
            {3, 1, 8}, {3, 2, 16}, {3, 4, 16}, {3, 32, 32}, {3, 3, 24},
            {4, 1, 10}, {4, 4, 8}, {4, 0, 8}, {4, 2, 10}, {5, 1, 3}, {5, 2, 2}, {5, 4, 4}};
        for (int[] w : want) {
            due("needed(" + w[0] + ", " + w[1] + ")", x.needed(w[0], w[1]), w[2]);
        }
        ChanceSteps z = with("loop 1{loop 1{loop 1{loop 1{let a b}}}}", "if c{if d{if e{if f{let a b}{see 1}}{see 1}}{see 1}}{see 1}",
            "if c{see 1}{if d{see 1}{if e{see 1}{if f{see 1}{let a b}}}}");
        due("as deep as can be", z.needed(0, 1), 2);
        due("as deep as can be in first BLOCKS", z.needed(1, 1), 63);
        due("as deep as can be in second BLOCKS", z.needed(2, 1), 63);
        due("names -1", x.needed(0, -1), BAD);
        due("names 64", x.needed(0, 64), BAD);
        due("program 6", x.needed(6, 0), BAD);
        due("program -1", x.needed(-1, 0), BAD);
        // a SEE in what is RUN by what is RUN
        ChanceSteps y = with("see a", "run b 0 c", "run d 1 e");
        due("SEES by two", y.needed(2, 1), 17);
    }

    private static void promise15() {
        ChanceSteps x = with(DICE, "draw a 0:1,1:1;draw b 0:1,1:1;draw c 0:1,1:1;let a b+c;let b 0;let c 0", NEVER,
            "draw a 0:1,1:1;if a{draw b 0:1,1:1;draw c 0:1,1:1;let c 0}{draw b 2:1,3:1;let b 2}",
            "draw a 0:1,1:1,2:2;loop 2{draw b 0:1,1:1,2:2;let b 0};run d 0 a");
        due("nothing FORGOTTEN", x.peak(0, -1), 6);
        due("c asked for", x.peak(0, 4), 6);
        due("nothing asked for, but SEEN", x.peak(0, 0), 6);
        due("all asked for, but a is drawn first in vain", x.peak(1, 63), 4);
        due("nothing FORGOTTEN", x.peak(1, -1), 8);
        due("a asked for, that is drawn first in vain", x.peak(1, 1), 4);
        due("b asked for, that is 0", x.peak(1, 2), 1);
        due("nothing asked for", x.peak(1, 0), 1);
        due("VOID", x.peak(2, -1), 1);
        due("VOID, asked", x.peak(2, 63), 1);
        due("of an IF's BLOCKS those that came into it", x.peak(3, -1), 4);
        due("of an IF, b asked for", x.peak(3, 2), 3);
        due("of an IF, c asked for", x.peak(3, 4), 2);
        due("of a LOOP each time", x.peak(4, -1), 9);
        due("of a LOOP, d asked for", x.peak(4, 8), 3);
        due("of a LOOP, b asked for", x.peak(4, 2), 3);
        // THE START's VALUES that aren't NEEDED are 0 ahead of the first: E of them, too
        ChanceSteps y = with("draw a 0:1,1:1;let b c;let c a");
        y.let(2, 9);
        due("c asked for", y.peak(0, 4), 2);
        due("b asked for", y.peak(0, 2), 1);
        // the second BLOCK is the widest; what was widest before doesn't matter
        y = with("draw a 0:1,1:1;if a{see 1}{draw b 0:1,1:1,2:1,3:1,4:1,5:1,6:1,7:1;let b 0}",
            "if a{see 1}{see 2}", "loop 3{let d c;let c b;let b a;draw a 0:1,1:1}", "if 0{see 1}{if 0{see 1}{if 0{see 1}{draw e 0:1,1:3}}}");
        due("of the second BLOCK", y.peak(0, -1), 8);
        due("of the second BLOCK, b asked for", y.peak(0, 2), 2);
        due("of the second BLOCK, a asked for", y.peak(0, 1), 2);
        due("of one alone", y.peak(1, -1), 1);
        due("of one alone, all asked for", y.peak(1, 63), 1);
        due("of a LOOP that hands on, nothing FORGOTTEN", y.peak(2, -1), 8);
        int[] handed = {2, 2, 2, 1, 4, 8};
        int[] of = {1, 2, 4, 8, 6, 7};
        for (int i = 0; i < 6; i++) due("of a LOOP that hands on, asked for " + of[i], y.peak(2, of[i]), handed[i]);
        // what a call took to reckon with, it gives back
        for (int i = 0; i < 200; i++) {
            due("peak again", y.peak(3, 16), 2);
            due("peak again", y.peak(0, 1), 2);
        }
        due("names -2", x.peak(0, -2), BAD);
        due("names 64", x.peak(0, 64), BAD);
        due("program 5", x.peak(5, -1), BAD);
        due("program -1", x.peak(-1, -1), BAD);
    }

    private static void wideness() {
        // 300 at once are as told, 301 are not: 10 times 10 times 3, and one more
        String tens = "draw a 0:1,1:1,2:1,3:1,4:1,5:1,6:1,7:1;draw b 0:1,1:1,2:1,3:1,4:1,5:1,6:1,7:1;";
        ChanceSteps x = with(tens + "draw c 0:1,1:1,2:1,3:1;see 1", tens + "draw c 0:4,1:4,2:4,3:2,4:2;see 0",
            WIDEST, "run f 2 a", "if a{run f 2 0}{let f 1}", "run f 2 0;let f a");
        due("256 STATES", x.told(0, 5), 256);
        due("320 STATES, even if not seen then", x.told(1, 4), 1);
        due("WIDE in what it RUNS", x.told(3, 4), 1);
        due("not gone into", x.told(4, 4), 0);
        x.let(0, 1);
        due("gone into", x.told(4, 4), 1);
        due("peak of that", x.peak(4, -1), WIDE);
        due("peak of that, f asked for", x.peak(4, 32), WIDE);
        due("left out, if f isn't asked for", x.peak(4, 1), 1);
        x.let(0, 0);
        due("not gone into again", x.told(4, 4), 0);
        due("WIDE by what it RUNS", x.peak(5, -1), WIDE);
        due("left out as f isn't NEEDED behind it", x.peak(5, 32), 1);
        due("WIDE, nothing FORGOTTEN", x.peak(2, -1), WIDE);
        due("WIDE, all asked for", x.peak(2, 63), WIDE);
        due("not WIDE, if b is FORGOTTEN", x.peak(2, 5), 40);
        due("not WIDE, if all are FORGOTTEN", x.peak(2, 0), 1);
        due("comes by a WIDE one", x.comes(2, 1) >= 0 ? 1 : 0, 1);
        due("often by a WIDE one", x.often(2, 1, 20, 3, 0, 0), 1);
        // of the BLOCKS of an IF less than 300 each, but more together
        ChanceSteps y = with("draw a 0:1,1:1,2:1,3:1,4:1,5:1,6:1,7:1",
            "run a 0 0;run b 0 0;draw d 0:1,1:1;if d{let c 0;let d 0}{draw c 1:1,2:1,3:1,4:5;let d 0};see 0",
            "run a 0 0;run b 0 0;draw d 0:1,1:1;if d{let c 0;let d 0}{draw c 1:1,2:1,3:2;let d 0}");
        due("320 at an IF's end", y.told(1, 4), 1);
        due("256 at an IF's end", y.told(2, 5), 256);
        y = with("loop 3{" + tens + "draw c 0:1,1:1;let c 0;let d d+1}");
        due("64 each time", y.told(0, 5), 64);
        due("WIDE in a LOOP alone", with("draw a 0:1,1:1,2:1,3:1,4:1,5:1,6:1,7:1",
            "loop 1{run a 0 0;run b 0 0;run c 0 0;let c 0}").told(1, 4), 1);
        due("WIDE in a first BLOCK alone", with("draw a 0:1,1:1,2:1,3:1,4:1,5:1,6:1,7:1",
            "if 1{run a 0 0;run b 0 0;run c 0 0;let c 0}{see 1}").told(1, 4), 1);
        due("WIDE in a second BLOCK alone", with("draw a 0:1,1:1,2:1,3:1,4:1,5:1,6:1,7:1",
            "if 0{see 1}{run a 0 0;run b 0 0;run c 0 0;let c 0}").told(1, 4), 1);
        due("WIDE in what it RUNS alone", with("draw a 0:1,1:1,2:1,3:1,4:1,5:1,6:1,7:1",
            "run a 0 0;run b 0 0;run c 0 0;let a 0;let b 0", "run a 1 0;let a 0").told(2, 4), 1);
        due("128 each time", y.peak(0, -1), 128);
        y = with("draw a 0:1,1:1,2:1,3:1,4:1,5:3;draw b 0:1,1:1,2:1,3:1,4:4;draw c 0:1,1:1,2:1,3:1,4:4;draw d 0:1,1:1");
        due("300 STATES", y.told(0, 5), 300);
        due("300 at once", y.peak(0, -1), 300);
        String sixByFiveByFiveByTwo = "run a 0 0;run b 1 0;run c 1 0;draw d 0:1,1:1;";
        y = with("draw a 0:1,1:1,2:1,3:1,4:1,5:3", "draw a 0:1,1:1,2:1,3:1,4:4",
            sixByFiveByFiveByTwo + "if a+b+c+d{see 1}{draw e 0:2};see a=0",
            sixByFiveByFiveByTwo + "if a+b+c+d{see 1}{draw e 0:1,1:1};see a=0");
        due("300 STATES at an IF's end", y.told(2, 5), 50);
        due("301 STATES at an IF's end", y.told(3, 5), WIDE);
        y = with("draw a 0:1,1:1,2:1,3:1,4:1,5:1,6:2;draw b 0:1,1:1,2:1,3:1,4:1,5:1,6:2;draw c 0:1,1:1,2:1,3:1,4:1,5:1,6:2;see a");
        due("343 STATES", y.told(0, 4), 1);
        due("343 STATES at the end", y.told(0, 5), WIDE);
    }

    private static void promise16() {
        ChanceSteps x = with("draw a 0:1,1:1;let b a", "draw b 1:4,0:4;draw a 0:1,1:3,0:2,1:2", "draw a 0:1,1:3;see a<9;let b a",
            "draw a 0:1,1:1,2:2;see a<2;let b a", NEVER, WIDEST);
        due("alike, though they hang together", x.alike(0, 1), 0);
        due("alike, by what is left", x.alike(0, 3), 1);
        due("the other way", x.alike(3, 0), 1);
        due("not alike", x.alike(0, 2), 0);
        due("itself", x.alike(2, 2), 1);
        due("BAD", x.alike(0, 6), BAD);
        due("BAD", x.alike(-1, 0), BAD);
        due("WIDE", x.alike(0, 5), WIDE);
        due("WIDE ahead of VOID", x.alike(4, 5), WIDE);
        due("VOID", x.alike(4, 0), VOID);
        due("VOID", x.alike(0, 4), VOID);
        ChanceSteps y = with("draw a 0:1,1:1;draw b 0:1,1:1", "draw a 0:1,1:1;let b a", "let f 1;draw a 0:1,1:1;let b a");
        due("alike, APART or not", y.alike(0, 1), 1);
        due("not by f", y.alike(1, 2), 0);
    }

    // ---- by seeds

    /** The LOT of the n-th DRAW by a SEED, by what all come to. */
    private static int lot(int seed, int n, int all) {
        int z = seed;
        for (int i = 0; i <= n; i++) z = z * 1103515245 + 12345;
        return (z >>> 9) % all;
    }

    private static void promise17() {
        ChanceSteps x = with("draw a 0:1,1:1,2:1,3:1,4:1,5:1,6:1,7:1", "draw b 9:1,4:3,7:4;draw c 1:8,2:8;run d 0 b;draw e 0:1,1:1",
            "draw a 0:1,1:1;see a;let f 5", "run b 2 0;let c 3", "loop 2{draw a 0:1,1:1;let b b*2+a};if b<2{let c 1}{let c 2}",
            "let a a+1");
        int[] falls = {9, 4, 4, 4, 7, 7, 7, 7};
        for (int seed : new int[] {0, 1, 2, 3, 5, 77, -1, MIN, MAX, 123456789, -987654}) {
            due("comes(0, " + seed + ")", x.comes(0, seed), lot(seed, 0, 8) * 100000);
            int of1 = falls[lot(seed, 0, 8)] * 10000 + (lot(seed, 1, 16) < 8 ? 1 : 2) * 1000 + lot(seed, 2, 8) * 100 + lot(seed, 3, 2) * 10;
            due("comes(1, " + seed + ")", x.comes(1, seed), of1);
            boolean seen = lot(seed, 0, 2) == 1;
            due("comes(2, " + seed + ")", x.comes(2, seed), seen ? 100005 : -1);
            due("comes(3, " + seed + ")", x.comes(3, seed), seen ? 13000 : -1);
            int b = lot(seed, 0, 2) * 2 + lot(seed, 1, 2);
            due("comes(4, " + seed + ")", x.comes(4, seed), lot(seed, 1, 2) * 100000 + b * 10000 + (b < 2 ? 1000 : 2000));
        }
        due("from THE START", x.comes(5, 0), 100000);
        x.let(0, 9);
        x.let(5, 8);
        due("from THE START", x.comes(5, 0), 8);
        due("program 6", x.comes(6, 0), BAD);
        due("program -1", x.comes(-1, 0), BAD);
    }

    private static void promise18() {
        ChanceSteps x = with("draw a 0:1,1:1,2:2;see a", NEVER, "let b 3");
        for (int seed : new int[] {0, 9, -3, MAX - 5}) {
            for (int m = 1; m <= 20; m++) {
                int all = 0, such = 0;
                for (int i = 0; i < m; i++) {
                    int l = lot(seed + i, 0, 4);
                    all += l > 0 ? 1 : 0;
                    such += l == 1 ? 1 : 0;
                }
                int g = all;
                for (int d = 2; d <= all; d++) if (all % d == 0 && such % d == 0) g = -d;
                int by = such == 0 ? Math.max(1, all) : g < 0 ? -g : 1;
                due("often(0, " + seed + ", " + m + ")", x.often(0, seed, m, 0, 1, 0), all == 0 ? -1 : such / by);
                due("often(0, " + seed + ", " + m + ") below", x.often(0, seed, m, 0, 1, 1), all == 0 ? -1 : all / by);
            }
        }
        due("by VOID", x.often(1, 0, 20, 0, 0, 0), -1);
        due("always", x.often(2, 0, 20, 1, 3, 0), 1);
        due("never", x.often(2, 0, 20, 1, 4, 0), 0);
        due("never, below", x.often(2, 0, 20, 1, 4, 1), 1);
        due("m 0", x.often(0, 0, 0, 0, 0, 0), BAD);
        due("m 21", x.often(0, 0, 21, 0, 0, 0), BAD);
        due("name -1", x.often(0, 0, 1, -1, 0, 0), BAD);
        due("name 6", x.often(0, 0, 1, 6, 0, 0), BAD);
        due("v -1", x.often(0, 0, 1, 0, -1, 0), BAD);
        due("v 10", x.often(0, 0, 1, 0, 10, 0), BAD);
        due("part -1", x.often(0, 0, 1, 0, 0, -1), BAD);
        due("part 2", x.often(0, 0, 1, 0, 0, 2), BAD);
        due("program 3", x.often(3, 0, 1, 0, 0, 0), BAD);
        due("program -1", x.often(-1, 0, 1, 0, 0, 0), BAD);
        due("BAD ahead of NONE", x.often(1, 0, 1, 0, 0, 2), BAD);
    }

    // ---- what was told

    private static void promise19() {
        ChanceSteps x = with(COIN, "draw a 0:1,1:1;draw b 0:3,1:1", NEVER, WIDEST, "if a{let b 0;see a<7}{draw b 0:1,1:1}",
            "draw c 0:1,1:2,2:5");
        due("film(0, 0, 0)", x.film(0, 0, 0), 10);
        due("as told", x.tells(0, 0, 0, 0), -1);
        due("otherwise", x.tells(0, 1, 1, 0), 0);
        due("PROGRAMS", x.tells(0, 0, 0, 1), 3);
        due("PROGRAMS by b", x.tells(0, 0, 1, 1), 16);
        due("NAMES", x.tells(0, 1, 0, 2), 1);
        due("STARTS", x.tells(0, 0, 0, 3), 1023);
        due("STARTS of a", x.tells(0, 4, 1, 3), 1);
        x.let(0, 3);
        due("STARTS of a, from another", x.tells(0, 4, 1, 3), 1);
        x.film(0, 4, 1);
        due("STARTS that aren't VOID", x.tells(0, 4, 1, 3), 126);
        due("THE START is as it was", x.count(2), 300000);
        due("and what comes of it", x.odds(4, 1, 0, 0), 1);
        due("cut", x.sheet(1, 1, 3), 1);
        x.cell(1, 0, 12);
        x.cell(1, 1, 25);
        x.cell(1, 2, 62);
        due("12 and a half is 12", x.tells(1, 5, 2, 0), -1);
        x.cell(1, 2, 63);
        due("62 and a half isn't 63", x.tells(1, 5, 2, 0), 2);
        x.cell(1, 0, 13);
        due("the first that is otherwise", x.tells(1, 5, 2, 0), 0);
        x.cell(1, 0, 12 - 256);
        due("an int is no byte", x.tells(1, 5, 2, 0), 0);
        x.sheet(1, 0, 1);
        x.cell(1, 0, 12 - 256);
        due("a byte has its lowest 8 bits; others aren't told", x.tells(1, 5, 2, 0), -1);
        x.sheet(1, 0, 0);
        due("nothing told", x.tells(1, 0, 0, 0), -1);
        due("nothing told, PROGRAMS not WIDE, not VOID", x.tells(1, 0, 0, 1), 51);
        due("nothing told, NAMES", x.tells(1, 0, 0, 2), 63);
        due("nothing told, STARTS not VOID", x.tells(1, 4, 0, 3), 127);
        x.sheet(1, 0, 10);
        due("10 told", x.tells(1, 0, 0, 0), 0);
        x.sheet(1, 0, 11);
        due("11 told", x.tells(1, 0, 0, 0), BAD);
        due("-11", x.tells(2, 0, 0, 0), -11);
        due("WIDE ahead of -11", x.tells(2, 3, 0, 1), WIDE);
        due("VOID ahead of -11", x.tells(2, 2, 0, 1), VOID);
        due("VOID ahead of more than 10", x.tells(1, 2, 0, 3), VOID);
        due("sheet 4", x.tells(4, 3, 0, 0), BAD);
        due("sheet -1", x.tells(-1, 3, 0, 0), BAD);
        due("program 6", x.tells(0, 6, 0, 0), BAD);
        due("name 6", x.tells(0, 3, 6, 0), BAD);
        due("name -1", x.tells(0, 3, -1, 0), BAD);
        due("what 4", x.tells(0, 3, 0, 4), BAD);
        due("what -1", x.tells(0, 2, 0, -1), BAD);
        // by a START under which it is WIDE nothing is told
        ChanceSteps y = with(WIDEST, "if a=2{run b 0 0}{let b 0}");
        y.sheet(0, 0, 0);
        due("STARTS not WIDE", y.tells(0, 1, 0, 3), 1023 - 4);
        due("PROGRAMS not WIDE", y.tells(0, 1, 0, 1), 2);
    }

    private static void promise20() {
        ChanceSteps x = with("draw a 0:1,1:1,2:1,3:5", NEVER, WIDEST, "draw b 9:2");
        due("film", x.film(3, 0, 0), 10);
        int[] want = {12, 12, 12, 62, 0, 0, 0, 0, 0, 0};
        x.sheet(2, 0, 10);
        for (int v = 0; v < 10; v++) x.cell(2, v, want[v]);
        due("as told by hand", x.tells(2, 0, 0, 0), -1);
        due("as told by the film", x.tells(3, 0, 0, 0), -1);
        due("of another NAME", x.film(3, 3, 1), 10);
        due("as told", x.tells(3, 3, 1, 2), 2);
        due("it has 10", x.cell(3, 9, 1), 1);
        due("it has no 11th", x.cell(3, 10, 1), -12);
        x.sheet(0, 0, 1);
        x.sheet(1, 1, 1);
        due("they are bytes", x.copy(3, 0, 0, 0, 1), 1);
        due("they are no ints", x.copy(3, 0, 1, 0, 1), -13);
        due("over ints", x.film(1, 0, 0), 10);
        due("they are bytes then", x.copy(1, 0, 0, 0, 1), 1);
        due("sheet 4", x.film(4, 2, 0), BAD);
        due("sheet -1", x.film(-1, 2, 0), BAD);
        due("program 4", x.film(0, 4, 0), BAD);
        due("name 6", x.film(0, 2, 6), BAD);
        due("name -1", x.film(0, 2, -1), BAD);
        x.sheet(0, -1, 0);
        due("WIDE", x.film(0, 2, 0), WIDE);
        due("VOID", x.film(0, 1, 0), VOID);
        due("it is missing still", x.cell(0, 0, 0), -11);
    }

    private static void promise21And22() {
        ChanceSteps x = with(COIN);
        due("none", x.back(), STATE);
        x.let(1, 4);
        due("image", x.image(), 1);
        due("a second PROGRAM", read(x, "let a 7"), 1);
        odds(x, 1, 0, 7, 1, 1);
        x.let(1, 5);
        feed(x, "see");
        x.sheet(0, 0, 1);
        due("back", x.back(), 1);
        due("PROGRAMS", x.count(0), 1);
        due("THE START", x.count(2), 40000);
        due("THE TAPE isn't kept", x.count(1), 3);
        due("SHEETS aren't kept", x.cell(0, 0, 0), 1);
        odds(x, 0, 1, 4, 1, 1);
        odds(x, 1, 0, 7, NO, NO);
        feed(x, " 1;let a 8");
        due("another second PROGRAM", x.program(), 1);
        odds(x, 1, 0, 8, 1, 1);
        due("what RUNS it", read(x, "run c 1 0"), 2);
        odds(x, 2, 2, 8, 1, 1);
        due("back again", x.back(), 1);
        due("a third in its place", read(x, "let a 9"), 1);
        due("what RUNS it", read(x, "run c 1 0"), 2);
        odds(x, 2, 2, 9, 1, 1);
        due("image anew", x.image(), 3);
        due("nothing to lay back", x.back(), 3);
        due("PROGRAMS", x.count(0), 3);
        ChanceSteps y = new ChanceSteps();
        due("image of nothing", y.image(), 0);
        due("a PROGRAM", read(y, COIN), 0);
        due("back to nothing", y.back(), 0);
        due("PROGRAMS", y.count(0), 0);
        due("left", y.left(0, 0), NO);
        ChanceSteps z = with("let a 1", "let a 2", "let a 3", "let a 4", "let a 5");
        z.image();
        due("a 6th", read(z, "let a 6"), 5);
        z.back();
        due("a 6th again", read(z, "let a 8"), 5);
        odds(z, 5, 0, 8, 1, 1);
    }

    private static void promise23() {
        ChanceSteps x = with(COIN, COIN);
        x.let(0, 1);
        x.let(1, 2);
        x.let(5, 3);
        x.feed(2, 1, 2, 0, 0, 0);
        due("PROGRAMS", x.count(0), 2);
        due("THE TAPE", x.count(1), 2);
        due("THE START", x.count(2), 120003);
        due("what 3", x.count(3), BAD);
        due("what -1", x.count(-1), BAD);
        due("what MIN", x.count(MIN), BAD);
    }

    // ---- the host

    private static void promise24() {
        ChanceSteps x = with(COIN);
        due("bytes", x.sheet(0, 0, 40), 1);
        due("its last", x.cell(0, 39, 1), 1);
        due("behind its last", x.cell(0, 40, 1), -12);
        due("41", x.sheet(0, 0, 41), BAD);
        due("MAX", x.sheet(0, 0, MAX), BAD);
        due("-1", x.sheet(0, 0, -1), -14);
        due("MIN", x.sheet(0, 1, MIN), -14);
        due("it is as it was", x.cell(0, 39, 1), 1);
        due("ints", x.sheet(3, 1, 3), 1);
        due("none", x.sheet(1, 1, 0), 1);
        due("none of none", x.cell(1, 0, 0), -12);
        due("missing, n does not matter", x.sheet(0, -1, -5), 1);
        due("missing", x.cell(0, 0, 0), -11);
        due("missing, n does not matter", x.sheet(3, -1, 41), 1);
        due("missing again", x.sheet(3, -1, MIN), 1);
        due("missing", x.cell(3, 0, 0), -11);
        due("sort 2", x.sheet(0, 2, 1), BAD);
        due("sort -2", x.sheet(0, -2, 1), BAD);
        due("sheet 4", x.sheet(4, 0, 1), BAD);
        due("sheet -1", x.sheet(-1, -1, 1), BAD);
        due("BAD ahead of -14", x.sheet(0, 2, -1), BAD);
        // all 0, also where something stood
        x.film(2, 0, 0);
        x.sheet(2, 0, 2);
        x.sheet(1, 0, 2);
        due("otherwise than 50", x.tells(2, 0, 0, 0), 0);
        x.cell(2, 0, 50);
        due("otherwise than 50", x.tells(2, 0, 0, 0), 1);
        due("NAMES that have 0 never", x.tells(1, 0, 1, 0), 0);
    }

    private static void promise25() {
        ChanceSteps x = with("let a 9;let b 0");
        x.sheet(0, 0, 1);
        x.sheet(1, 1, 1);
        due("a byte", x.cell(0, 0, 356), 1);
        due("its lowest 8 bits", x.tells(0, 0, 1, 0), -1);
        due("a byte below 0", x.cell(0, 0, -156), 1);
        due("its lowest 8 bits", x.tells(0, 0, 1, 0), -1);
        due("an int", x.cell(1, 0, 356), 1);
        due("the whole int", x.tells(1, 0, 1, 0), 0);
        due("an int", x.cell(1, 0, 100), 1);
        due("the int", x.tells(1, 0, 1, 0), -1);
        due("place -1", x.cell(0, -1, 0), -12);
        due("place 1", x.cell(0, 1, 0), -12);
        due("place MIN", x.cell(0, MIN, 0), -12);
        due("place MAX", x.cell(0, MAX, 0), -12);
        due("missing", x.cell(2, 99, 0), -11);
        due("sheet 4", x.cell(4, 0, 0), BAD);
        due("sheet -1", x.cell(-1, 0, 0), BAD);
    }

    private static void promise26() {
        ChanceSteps x = with("draw a 0:1,1:1", "draw a 1:1,2:1", "draw a 0:1,2:1");
        x.film(0, 0, 0);
        x.sheet(1, 0, 10);
        due("copy", x.copy(0, 0, 1, 1, 2), 2);
        due("what came", x.tells(1, 1, 0, 0), -1);
        due("what it came from", x.tells(0, 0, 0, 0), -1);
        // in one and the same row: as they were
        due("copy onto itself, on", x.copy(0, 0, 0, 1, 9), 9);
        x.cell(0, 0, 0);
        due("shifted", x.tells(0, 1, 0, 0), -1);
        due("copy onto itself, back", x.copy(0, 1, 0, 0, 9), 9);
        due("shifted back", x.tells(0, 0, 0, 0), -1);
        due("none", x.copy(0, 0, 1, 0, 0), 0);
        due("none, at the end", x.copy(0, 10, 1, 10, 0), 0);
        due("none, behind the end", x.copy(0, 11, 1, 0, 0), -12);
        due("none, behind the other's end", x.copy(0, 0, 1, 11, 0), -12);
        due("n -1", x.copy(0, 0, 1, 0, -1), -12);
        due("n MIN", x.copy(0, 0, 1, 0, MIN), -12);
        due("n MAX", x.copy(0, 1, 1, 1, MAX), -12);
        due("i -1", x.copy(0, -1, 1, 0, 1), -12);
        due("j -1", x.copy(0, 0, 1, -1, 1), -12);
        due("i too far", x.copy(0, 9, 1, 0, 2), -12);
        due("j too far", x.copy(0, 0, 1, 9, 2), -12);
        due("i MAX", x.copy(0, MAX, 1, 0, 2), -12);
        due("j MAX", x.copy(0, 0, 1, MAX, 2), -12);
        x.sheet(2, 1, 10);
        due("of unlike sorts", x.copy(0, 0, 2, 0, 1), -13);
        due("-13 ahead of -12", x.copy(2, 99, 0, 0, 1), -13);
        due("missing", x.copy(0, 99, 3, 0, 1), -11);
        due("missing", x.copy(3, 0, 2, 0, 1), -11);
        due("sheet 4", x.copy(4, 0, 3, 0, 1), BAD);
        due("sheet -1", x.copy(3, 0, -1, 0, 1), BAD);
        due("nothing changed", x.tells(0, 0, 0, 0), -1);
        due("nothing changed", x.tells(1, 1, 0, 0), -1);
    }

    /** The examples in README.md, and what it says that they print. */
    private static void readme() {
        ChanceSteps x = with("draw a 0:1,1:3;let b a+1");
        odds(x, 0, 1, 2, 3, 4);
        x = with("draw b 0:1,1:1;if b{let a a+1}{let a a*2}", "run c 0 3;run d 0 3;see c<d+1");
        due("left(1)", x.left(1, 0), x.left(1, 1), 3, 4);
        odds(x, 1, 2, 4, 2, 3);
        due("apart(1, 2, 3)", x.apart(1, 2, 3), 0);
        due("film(0, 0, 0)", x.film(0, 0, 0), 10);
        due("let(0, 1)", x.let(0, 1), 0);
        due("tells(0, 0, 0, 0)", x.tells(0, 0, 0, 0), 0);
        due("tells(0, 0, 0, 3)", x.tells(0, 0, 0, 3), 1);
    }
}
