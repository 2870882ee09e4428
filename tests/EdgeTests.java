/** Each sentence of the document that names a boundary case, with a test of its own. */
public final class EdgeTests {

    private static final long NO = -4611686018427387904L;
    private static final int NONE = -1, BAD = -2, STATE = -3, FULL = -4, WIDE = -6, VOID = -7;
    private static final int MIN = Integer.MIN_VALUE, MAX = Integer.MAX_VALUE;

    private static final String EIGHT = "draw a 0:1,1:1,2:1,3:1,4:1,5:1,6:1,7:1";
    private static final String SEVEN = "draw a 0:1,1:1,2:1,3:1,4:1,5:1,6:2";
    private static final String SIX = "draw a 0:1,1:1,2:1,3:1,4:1,5:3";
    private static final String FIVE = "draw a 0:1,1:1,2:1,3:1,4:4";
    private static final String COIN = "draw a 0:1,1:1";
    /** 512 STATES behind its third STEP, one at its end. */
    private static final String BULGE = "run a 0 0;run b 0 0;run c 0 0;let a 0;let b 0;let c 0";

    private static int wrong = 0;
    private static int asked = 0;
    private static int sentences = 0;
    private static int askedOfThis = 1;
    private static String sentence = "";

    public static void main(String[] args) {
        names(); values(); states(); numbersOfPrograms(); answers(); order(); nothingChanges();
        tape(); words(); numbers(); blanks(); texts(); draws(); loopsAndRuns(); formulas();
        faults(); opens(); seventeenSteps(); stepNumbers(); bitsAndTurns();
        oddsOfSteps(); runs(); wide(); wideInIfs(); wideInLoopsAndRuns(); voids();
        probabilities(); folds(); apart(); needed(); forgotten(); peaks();
        seeds(); often(); told(); toldBy(); image(); sheets();
        feed(); program(); let(); toldOf(); stepOf(); taken(); oddsCalls(); otherOdds(); toldCalls(); host();
        fiveReadings();
        says("");
        System.out.println(sentences - 1 + " sentences, " + asked + " answers asked, " + wrong + " are not as due");
        if (wrong != 0) System.exit(1);
    }

    // ---- what the tests are told with

    /** What is asked from here on is asked of this sentence of the document. */
    private static void says(String next) {
        if (askedOfThis == 0) {
            wrong++;
            System.out.println("nothing is asked of: " + sentence);
        }
        sentence = next;
        sentences++;
        askedOfThis = 0;
    }

    private static void due(String call, long got, long want) {
        asked++;
        askedOfThis++;
        if (got != want) {
            wrong++;
            System.out.println(call + " answered " + got + ", due is " + want + ", as it says: " + sentence);
        }
    }

    private static void ratio(String call, long above, long below, long wantAbove, long wantBelow) {
        due(call + ", above", above, wantAbove);
        due(call + ", below", below, wantBelow);
    }

    private static void write(ChanceSteps x, String text) {
        for (int i = 0; i < text.length(); i++) x.feed(1, text.charAt(i), 0, 0, 0, 0);
    }

    private static int read(ChanceSteps x, String text) {
        write(x, text);
        return x.program();
    }

    private static ChanceSteps with(String... texts) {
        ChanceSteps x = new ChanceSteps();
        for (int i = 0; i < texts.length; i++) due("program() of " + texts[i], read(x, texts[i]), i);
        return x;
    }

    private static void stands(String text) {
        due("program() of " + text, read(new ChanceSteps(), text), 0);
    }

    private static void fault(String text, int place) {
        due("program() of " + text, read(new ChanceSteps(), text), -100 - place);
    }

    /** What the text leaves a NAME of THE START (all 0), if it draws nothing. */
    private static void becomes(String text, int name, int v) {
        ChanceSteps x = new ChanceSteps();
        due("program() of " + text, read(x, text), 0);
        due("likeliest VALUE by " + text, x.likeliest(0, name), v);
        ratio("its odds", x.odds(0, name, v, 0), x.odds(0, name, v, 1), 1, 1);
        int below = x.comes(0, 7);
        for (int n = 5; n > name; n--) below /= 10;
        due("by a SEED", below % 10, v);
    }

    private static void odds(ChanceSteps x, int p, int name, int v, long above, long below) {
        ratio("odds(" + p + ", " + name + ", " + v + ")", x.odds(p, name, v, 0), x.odds(p, name, v, 1), above, below);
    }

    private static void left(ChanceSteps x, int p, long above, long below) {
        ratio("left(" + p + ")", x.left(p, 0), x.left(p, 1), above, below);
    }

    // ---- Terms, 1

    private static void names() {
        says("NAMES a .. f (0 .. 5)");
        ChanceSteps x = with("let a 1;let b 2;let c 3;let d 4;let e 5;let f 6");
        x.sheet(0, 0, 0);
        for (int name = 0; name < 6; name++) {
            due("let", x.let(name, 0), 0);
            odds(x, 0, name, name + 1, 1, 1);
            ratio("fold", x.fold(0, name, 0, 0), x.fold(0, name, 0, 1), name + 1, 1);
            due("likeliest", x.likeliest(0, name), name + 1);
            due("apart", x.apart(0, name, 5 - name), 1);
            due("often", x.often(0, 0, 1, name, name + 1, 0), 1);
            due("tells", x.tells(0, 0, name, 0), NONE);
            due("film", x.film(1, 0, name), 10);
        }
        for (int name : new int[] {MIN, -2, -1, 6, 7, MAX}) {
            due("let", x.let(name, 0), BAD);
            odds(x, 0, name, 0, NO, NO);
            ratio("fold", x.fold(0, name, 0, 0), x.fold(0, name, 0, 1), NO, NO);
            due("likeliest", x.likeliest(0, name), name == 6 ? 123456 : BAD);
            due("apart", x.apart(0, name, 0), BAD);
            due("apart, other", x.apart(0, 0, name), BAD);
            due("often", x.often(0, 0, 1, name, 0, 0), BAD);
            due("tells", x.tells(0, 0, name, 0), BAD);
            due("film", x.film(1, 0, name), BAD);
        }
        says("a NAME (a WORD of one letter, a .. f)");
        for (char c = 'a'; c <= 'z'; c++) {
            boolean is = c <= 'f';
            due("let of " + c, read(new ChanceSteps(), "let " + c + " 1"), is ? 0 : -104);
            due("draw of " + c, read(new ChanceSteps(), "draw " + c + " 1:2"), is ? 0 : -105);
            due("see of " + c, read(new ChanceSteps(), "see " + c), is ? 0 : -104);
            due("run of " + c, read(with("see 1"), "run " + c + " 0 1"), is ? 1 : -104);
        }
        fault("let ab 1", 4);
        fault("see ff", 4);
        says("NAMES (bits)");
        ChanceSteps y = with("see f");
        due("needed, none", y.needed(0, 0), 32);
        due("needed, all", y.needed(0, 63), 63);
        due("peak, none", y.peak(0, 0), 1);
        due("peak, all", y.peak(0, 63), 1);
        for (int names : new int[] {MIN, -2, 64, 65, MAX}) {
            due("needed", y.needed(0, names), BAD);
            due("peak", y.peak(0, names), BAD);
        }
        due("needed of NONE", y.needed(0, NONE), BAD);
        due("peak of NONE", y.peak(0, NONE), 1);
    }

    private static void values() {
        says("have VALUES 0 .. 9");
        ChanceSteps x = with("see 1");
        int was = 0;
        for (int v = 0; v < 10; v++) {
            due("let", x.let(3, v), was);
            odds(x, 0, 3, v, 1, 1);
            odds(x, 0, 3, (v + 1) % 10, 0, 1);
            due("often", x.often(0, 0, 1, 3, v, 0), 1);
            was = v;
        }
        for (int v : new int[] {MIN, -1, 10, 11, MAX}) {
            due("let", x.let(3, v), BAD);
            odds(x, 0, 3, v, NO, NO);
            due("often", x.often(0, 0, 1, 3, v, 0), BAD);
        }
        due("it is as it was", x.count(2), 900);
    }

    private static void states() {
        says("a STATE is six VALUES, as digits (a's the highest: 0 .. 999999)");
        ChanceSteps x = with("see 1", "let a 1;let b 2;let c 3;let d 4;let e 5;let f 6");
        due("THE START", x.count(2), 0);
        ratio("state 0", x.state(0, 0, 0), x.state(0, 0, 1), 1, 1);
        due("comes", x.comes(1, 0), 123456);
        ratio("state 123456", x.state(1, 123456, 0), x.state(1, 123456, 1), 1, 1);
        ratio("state 654321", x.state(1, 654321, 0), x.state(1, 654321, 1), 0, 1);
        int all = 0;
        int unit = 100000;
        for (int name = 0; name < 6; name++) {
            x.let(name, 9);
            all += 9 * unit;
            unit /= 10;
            due("THE START", x.count(2), all);
            ratio("state", x.state(0, all, 0), x.state(0, all, 1), 1, 1);
        }
        due("all 9", all, 999999);
        for (int state : new int[] {MIN, -1, 1000000, 1999999, MAX}) {
            ratio("state " + state, x.state(0, state, 0), x.state(0, state, 1), NO, NO);
        }
        says("THE START is a STATE (0 at first).");
        due("THE START", new ChanceSteps().count(2), 0);
        due("comes", with("see 1").comes(0, 0), 0);
    }

    private static void numbersOfPrograms() {
        says("PROGRAMS (6 at most, numbered from 0) are texts.");
        ChanceSteps x = new ChanceSteps();
        due("PROGRAMS", x.count(0), 0);
        for (int p = 0; p < 6; p++) {
            noProgram(x, p);
            due("program()", read(x, "let a " + p), p);
            due("PROGRAMS", x.count(0), p + 1);
            due("likeliest", x.likeliest(p, 0), p);
        }
        for (int p : new int[] {MIN, -2, -1, 6, 7, MAX}) noProgram(x, p);
        due("a 7th", read(x, "let a 6"), FULL);
        due("PROGRAMS", x.count(0), 6);
        noProgram(x, 6);
    }

    private static void noProgram(ChanceSteps x, int p) {
        due("told", x.told(p, 0), BAD);
        due("step", x.step(p, 0, 0), BAD);
        due("taken", x.taken(p, 0, 1), BAD);
        due("left", x.left(p, 0), NO);
        due("odds", x.odds(p, 0, 0, 0), NO);
        due("state", x.state(p, 0, 0), NO);
        due("fold", x.fold(p, 0, 0, 0), NO);
        due("likeliest", x.likeliest(p, 0), BAD);
        due("apart", x.apart(p, 0, 1), BAD);
        due("needed", x.needed(p, 0), BAD);
        due("peak", x.peak(p, NONE), BAD);
        due("alike", x.alike(p, 0), BAD);
        due("alike, other", x.alike(0, p), BAD);
        due("comes", x.comes(p, 0), BAD);
        due("often", x.often(p, 0, 1, 0, 0, 0), BAD);
        due("tells", x.tells(0, p, 0, 0), BAD);
        due("film", x.film(0, p, 0), BAD);
    }

    private static void answers() {
        says("NONE is -1; NO, where a long is answered, -4611686018427387904.");
        due("NONE", ChanceSteps.NONE, -1);
        due("NO", ChanceSteps.NO, NO);
        says("BAD (-2: a number is none such or not as told), STATE (-3), FULL (-4), WIDE (-6), VOID (-7)");
        due("BAD", ChanceSteps.BAD, -2);
        due("STATE", ChanceSteps.STATE, -3);
        due("FULL", ChanceSteps.FULL, -4);
        due("WIDE", ChanceSteps.WIDE, -6);
        due("VOID", ChanceSteps.VOID, -7);
        says("Calls that answer a long answer NO in place of any of these.");
        ChanceSteps x = with("see 0", EIGHT, BULGE.replace("run a 0", "run a 1").replace("run b 0", "run b 1").replace("run c 0", "run c 1"));
        for (int p : new int[] {0, 2, 3}) {
            due("left", x.left(p, 0), p == 0 ? 0 : NO);
            due("odds", x.odds(p, 0, 0, 0), NO);
            due("state", x.state(p, 0, 0), NO);
            due("fold", x.fold(p, 0, 0, 0), NO);
        }
        due("WIDE", x.told(2, 4), 1);
    }

    private static void order() {
        says("Refusals, the first that the call's words name");
        ChanceSteps x = with("see 0", EIGHT, "run a 1 0;run b 1 0;run c 1 0;see 0", "see 1");
        x.sheet(1, 0, 11);
        x.sheet(2, 1, 11);
        write(x, "................................................................................................................................");
        due("THE TAPE", x.count(1), 120);
        due("feed: BAD, FULL", x.feed(5, 256, 0, 0, 0, 0), BAD);
        due("feed: FULL", x.feed(5, 255, 0, 0, 0, 0), FULL);
        due("step: BAD, -12", x.step(0, 1, 6), BAD);
        due("step: -12", x.step(0, 1, 5), -12);
        due("taken: BAD, -12", x.taken(0, 1, 3), BAD);
        due("taken: -12, -13", x.taken(0, 1, 0), -12);
        due("taken: -13", x.taken(0, 0, 0), -13);
        due("likeliest: BAD, WIDE", x.likeliest(2, 7), BAD);
        due("likeliest: BAD, VOID", x.likeliest(0, 7), BAD);
        due("likeliest: WIDE, VOID, by one that is WIDE and would be VOID", x.likeliest(2, 0), WIDE);
        due("apart: BAD, WIDE", x.apart(2, 0, 6), BAD);
        due("apart: BAD, VOID", x.apart(0, 6, 0), BAD);
        due("apart: WIDE, VOID", x.apart(2, 0, 0), WIDE);
        due("peak: BAD, WIDE", x.peak(2, 64), BAD);
        due("alike: BAD, WIDE", x.alike(2, 4), BAD);
        due("alike: BAD, VOID", x.alike(4, 0), BAD);
        due("alike: WIDE, VOID", x.alike(0, 2), WIDE);
        due("alike: WIDE, VOID", x.alike(2, 0), WIDE);
        due("alike: VOID", x.alike(0, 3), VOID);
        due("alike: VOID", x.alike(3, 0), VOID);
        for (int[] bad : new int[][] {{4, 0, 0, 0}, {-1, 0, 0, 0}, {0, 4, 0, 0}, {0, 0, 6, 0}, {0, 0, 0, 4}, {0, 0, 0, -1}}) {
            due("tells: BAD, VOID, -11", x.tells(bad[0], bad[1], bad[2], bad[3]), BAD);
            due("tells: BAD, WIDE, -11", x.tells(bad[0], bad[1] == 0 ? 2 : 4, bad[2], bad[3]), BAD);
        }
        for (int what = 0; what < 4; what++) {
            due("tells: WIDE, -11", x.tells(0, 2, 0, what), WIDE);
            due("tells: VOID, -11", x.tells(0, 0, 0, what), VOID);
            due("tells: WIDE, BAD", x.tells(1, 2, 0, what), WIDE);
            due("tells: VOID, BAD", x.tells(2, 0, 0, what), VOID);
            due("tells: -11", x.tells(0, 3, 0, what), -11);
            due("tells: BAD", x.tells(1, 3, 0, what), BAD);
        }
        due("film: BAD, WIDE", x.film(4, 2, 0), BAD);
        due("film: BAD, VOID", x.film(0, 0, 6), BAD);
        due("film: WIDE, VOID", x.film(0, 2, 0), WIDE);
        due("sheet: BAD, -14", x.sheet(4, 0, -1), BAD);
        due("sheet: BAD, -14", x.sheet(0, 2, -1), BAD);
        due("cell: BAD, -11", x.cell(4, 0, 0), BAD);
        due("cell: -11, -12", x.cell(0, -1, 0), -11);
        due("copy: BAD, -11", x.copy(0, 0, 4, 0, 0), BAD);
        due("copy: -11, -13, the first is missing", x.copy(0, -1, 1, 0, 0), -11);
        due("copy: -11, -13, the other is missing", x.copy(2, -1, 0, 0, 0), -11);
        due("copy: -13, -12", x.copy(1, -1, 2, 0, -1), -13);
        due("copy: -12", x.copy(1, -1, 1, 0, 0), -12);
    }

    /** All that the calls tell of an object, as one number. */
    private static long print(ChanceSteps x) {
        long sum = 0;
        for (int what = 0; what < 3; what++) sum = sum * 31 + x.count(what);
        for (int p = 0; p < 6; p++) {
            for (int what = 0; what < 7; what++) sum = sum * 31 + x.told(p, what);
            for (int i = 0; i < 17; i++) for (int what = 0; what < 6; what++) sum = sum * 31 + x.step(p, i, what);
            sum = sum * 31 + x.comes(p, 5);
            for (int name = 0; name < 6; name++) {
                sum = sum * 31 + x.fold(p, name, 3, 0);
                for (int s = 0; s < 4; s++) sum = sum * 31 + x.tells(s, p, name, 0);
            }
        }
        for (int s = 0; s < 4; s++) {
            for (int t = 0; t < 4; t++) for (int i = 0; i < 42; i++) sum = sum * 31 + x.copy(s, i, t, 0, 0);
        }
        return sum;
    }

    private static void nothingChanges() {
        says("Refusals [..] change nothing (but THE TAPE, where told)");
        ChanceSteps x = with("see 0", EIGHT, "run a 1 0;run b 1 0;run c 1 0;see 0", "let a 3", "let a a+1;draw b 1:3,2:1");
        x.let(2, 7);
        x.let(0, 5);
        x.film(0, 3, 0);
        x.film(1, 4, 1);
        x.sheet(2, 1, 11);
        for (int i = 0; i < 118; i++) x.feed(1, 32, 0, 0, 0, 0);
        long print = print(x);
        due("a print is the same again", print(x), print);
        int[] odd = {MIN, -1, 6, 256, MAX};
        for (int n : odd) {
            x.feed(n, 0, 0, 0, 0, 0);
            x.feed(1, n == 6 ? -1 : n, 0, 0, 0, 0);
            x.feed(1, 0, 0, 0, 0, n == 6 ? 300 : n);
            x.let(n, 1);
            x.let(0, n == 6 ? 10 : n);
            x.film(n, 3, 0);
            x.film(0, n, 0);
            x.film(0, 3, n);
            x.sheet(n, 0, 1);
            x.sheet(0, n == -1 ? 2 : n, 1);
            x.sheet(0, 0, n == 6 ? 41 : n == -1 ? -1 : n);
            x.cell(n, 0, 9);
            x.cell(0, n == 6 ? 10 : n, 9);
            x.copy(n, 0, 0, 0, 1);
            x.copy(0, 0, n, 0, 1);
            x.copy(1, n == 6 ? 10 : n, 0, 0, 1);
            x.copy(1, 0, 0, n == 6 ? 10 : n, 1);
            x.copy(1, 0, 0, 1, n == 6 ? 10 : n);
            x.count(n);
            due("behind BAD, -12, -14 with " + n, print(x), print);
        }
        due("feed: FULL", x.feed(3, 32, 32, 32, 32, 32), FULL);
        due("film: WIDE", x.film(0, 2, 0), WIDE);
        due("film: VOID", x.film(0, 0, 0), VOID);
        due("cell: -11", x.cell(3, 0, 1), -11);
        due("copy: -11", x.copy(0, 0, 3, 0, 1), -11);
        due("copy: -13", x.copy(0, 0, 2, 0, 1), -13);
        due("back: STATE", x.back(), STATE);
        due("behind the others", print(x), print);
        x.feed(1, '#', 0, 0, 0, 0);
        due("a FAULT", x.program(), -218);
        due("THE TAPE alone is empty", x.count(1), 0);
        for (int i = 0; i < 118; i++) x.feed(1, 32, 0, 0, 0, 0);
        due("all else is as it was behind a FAULT", print(x), print);
        due("THE TAPE goes on", x.count(1), 118);
        ChanceSteps y = with(COIN);
        print = print(y);
        due("54 BITS", read(y, "loop 9{draw a 0:8,1:8;draw b 1:4}"), FULL);
        due("all is as it was behind too many BITS", print(y), print);
        due("61 TURNS", read(y, "loop 9{loop 5{see 1}};loop 4{see 1};see 1"), FULL);
        due("all is as it was behind too many TURNS", print(y), print);
    }

    private static String blankTo(String text, int size, String last) {
        StringBuilder s = new StringBuilder(text);
        while (s.length() < size - last.length()) s.append(' ');
        return s + last;
    }

    private static void tape() {
        says("A PROGRAM is read from THE TAPE (120 bytes at most).");
        becomes(blankTo("let b a", 120, "+7"), 1, 7);
        fault(blankTo("let b a", 119, "+"), 119);
        fault(blankTo("let b a", 120, "+"), 120);
        fault(blankTo("let b a", 120, "#"), 119);
        ChanceSteps x = new ChanceSteps();
        write(x, blankTo("let b a", 120, "+6"));
        due("a 121st byte", x.feed(1, '0', 0, 0, 0, 0), FULL);
        due("a PROGRAM of 120 bytes", x.program(), 0);
        due("its VALUE", x.likeliest(0, 1), 6);
        // a text of 120 bytes of formulas: every TOKEN of it counts
        StringBuilder s = new StringBuilder("let b 1");
        int sum = 1;
        while (s.length() < 119) {
            s.append("+1");
            sum++;
        }
        becomes(s.toString(), 1, sum % 10);
        becomes(s + "2", 1, (sum + 11) % 10);
        // as many LOTS as there is room for
        s = new StringBuilder();
        for (int d = 0; d < 3; d++) s.append(d == 0 ? "" : ";").append("draw ").append("abc".charAt(d)).append(" 0:1,1:1,2:1,3:1,4:1,5:1,6:1,7:1");
        stands(s.toString());
    }

    private static void words() {
        says("WORDS (as many letters a .. z as stand there)");
        fault("lets a 1", 0);
        fault("le ta 1", 0);
        fault("leta 1", 0);
        fault("seea", 0);
        fault("drawa 0:2", 0);
        fault("let az 1", 4);
        fault("let za 1", 4);
        fault("let a bc", 6);
        fault("let a " + (char) ('a' - 1), 6);
        fault("let a 1" + (char) ('z' + 1), 7);
        fault("let a 1" + (char) ('a' - 1), 7);
        fault("Let a 1", 0);
        fault("let A 1", 4);
        stands("let a1");
        stands("see(a)");
        stands("if a{see 1}{see 1}");
        stands("see a<b");
        stands("loop2{see-a}");
        says("a WORD that is none of these");
        for (String word : new String[] {"dra", "draws", "le", "sea", "i", "ifs", "loo", "loops", "ru", "runs", "g", "jump"}) fault("\n" + word, 1);
        fault("see see", 4);
        fault("let if 1", 4);
        fault("let a run", 6);
        fault("loop a{see 1}", 5);
    }

    private static void numbers() {
        says("NUMBERS (as many digits as stand there; more than 2 are too long)");
        becomes("let a 7", 0, 7);
        becomes("let a 07", 0, 7);
        becomes("let a 98", 0, 8);
        becomes("see 99=33*3;let a 99", 0, 9);
        becomes("let a 00", 0, 0);
        fault("let a 007", 6);
        fault("let a 100", 6);
        fault("let a 0000000", 6);
        fault("let a 1+100", 8);
        fault("let a 12 3", 9);
        fault("let a 1/", 7);
        fault("let a /", 6);
        fault("let a 12:", 8);
        fault("draw a 000:2", 7);
        fault("draw a 0:002", 9);
        fault("loop 002{see 1}", 5);
        due("run 000", read(with("see 1"), "run a 000 1"), -106);
        due("run 00", read(with("see 1"), "run a 00 1"), 1);
        stands("draw a 00:02");
        stands("loop 02{see 1}");
    }

    private static void blanks() {
        says("blanks (32, 10) may stand between");
        stands(" \n let\n\n a \n( 1 +\n2 ) \n");
        stands("\ndraw a\n0 : 1 , 1\n:\n1\n");
        stands(" loop 2 { see 1 } ; if a { see 1 } { see 1 } ");
        stands("let a 1;let b a<1;see a=1");
        fault("le t a 1", 0);
        fault("let a 1 2", 8);
        fault("let a \n", 7);
        fault(" \n", 2);
        says("a byte that begins none");
        String signs = ";{}()+-*%<=,: \n";
        for (int b = 0; b < 256; b++) {
            boolean begins = b >= 'a' && b <= 'z' || b >= '0' && b <= '9' || signs.indexOf(b) >= 0;
            // ahead, between and behind: none may stand but blanks; those that begin none are told by their own place
            if (begins) {
                due("behind, byte " + b, read(new ChanceSteps(), "see 1 " + (char) b), b == 32 || b == 10 ? 0 : "+-*%<=;".indexOf(b) >= 0 ? -107 : -106);
            } else {
                fault((char) b + "let a 1", 0);
                fault("let " + (char) b + "a 1", 4);
                fault("let a 1" + (char) b, 7);
                fault("let a " + (char) b + " 1", 6);
            }
        }
    }

    private static void texts() {
        says("the text's size, if it ends too early");
        String whole = "draw a 0:1,1:1;if a<1{let b(-c%2)}{loop 2{see a}}";
        for (int size = 0; size < whole.length(); size++) {
            String part = whole.substring(0, size);
            boolean inWord = size == 1 || size == 2 || size == 3 || size == 16 || size == 23 || size == 24 || part.endsWith("{lo") || part.endsWith("{l")
                || part.endsWith("loo") || part.endsWith("2{s") || part.endsWith("se");
            if (!inWord && size != 14) fault(part, size);
        }
        stands(whole.substring(0, 14));
        stands(whole);
        fault("", 0);
        fault("let a 1; ", 9);
        fault("see (1 \n ", 9);
        says("BLOCK, till the end. BLOCK: STEP { ; STEP }.");
        fault(";see 1", 0);
        fault("see 1;", 6);
        fault("see 1;;see 1", 6);
        fault("see 1 see 1", 6);
        fault("see 1}", 5);
        fault("see 1)", 5);
        fault("loop 2{}", 7);
        fault("loop 2{;see 1}", 7);
        fault("loop 2{see 1;}", 13);
        fault("if 1{see 1}{}", 12);
        fault("{see 1}", 0);
        stands("see 1;see 1;loop 2{see 1;see 1};see 1");
    }

    private static void draws() {
        says("draw NAME LOT { , LOT } (8 LOTS at most)");
        stands(EIGHT);
        stands("draw a 0:1,0:1,0:1,0:1,0:1,0:1,0:1,0:9");
        stands("draw a 0:2");
        fault("draw a", 6);
        fault("draw a ,0:2", 7);
        fault("draw a 0:2,", 11);
        fault("draw a 0:2;;", 11);
        says("the , ahead of a 9th LOT");
        fault(EIGHT + ",8:1", 38);
        fault(EIGHT + ",8:8", 38);
        fault(EIGHT + ",", 38);
        fault(EIGHT + " ,#", 39);
        fault(EIGHT + "1,8:1", 39);
        says("LOT: NUMBER : NUMBER: a VALUE 0 .. 9 and its WEIGHT 1 .. 16");
        for (int v = 0; v < 10; v++) becomes("draw a " + v + ":2", 0, v);
        for (int v : new int[] {10, 11, 99}) fault("draw a " + v + ":2", 7);
        for (int w = 1; w < 16; w++) ratioOfLots(w);
        fault("draw a 1:0,0:2", 9);
        fault("draw a 1:2,0:0", 13);
        fault("draw a 1:17", 9);
        fault("draw a 1:99", 9);
        fault("draw a 1:-1", 9);
        fault("draw a -1:2", 7);
        fault("draw a 1", 8);
        fault("draw a 1 2", 9);
        fault("draw a 1:1:1", 10);
        says("WEIGHTS come to 2, 4, 8 or 16 together; of the TOKEN behind LOTS whose WEIGHTS don't come to 2, 4, 8 or 16");
        for (int w = 1; w <= 16; w++) {
            boolean so = w == 2 || w == 4 || w == 8 || w == 16;
            String text = "draw a 3:" + w;
            due(text, read(new ChanceSteps(), text), so ? 0 : -100 - text.length());
            due(text + " ;", read(new ChanceSteps(), text + " ;see 1"), so ? 0 : -101 - text.length());
            due(text + "}", read(new ChanceSteps(), "loop 1{" + text + "}"), so ? 0 : -107 - text.length());
            fault(text + ",1:16", text.length() + 5);
            fault(text + "#", text.length());
        }
        fault("draw a 0:16,1:16", 16);
        fault("draw a 0:16,1:8,2:8", 19);
        fault("draw a 0:1,0:1,0:1,0:1,0:1,0:1,0:1,0:2", 38);
    }

    private static void ratioOfLots(int w) {
        ChanceSteps x = with("draw a 0:" + w + ",9:" + (16 - w));
        int common = w % 8 == 0 ? 8 : w % 4 == 0 ? 4 : w % 2 == 0 ? 2 : 1;
        odds(x, 0, 0, 0, w / common, 16 / common);
        due("a DRAW of 16", x.told(0, 1), 4);
    }

    private static void loopsAndRuns() {
        says("loop NUMBER { BLOCK } (0 .. 9 times)");
        for (int n = 0; n < 10; n++) becomes("loop " + n + "{let a a+1}", 0, n);
        for (int n : new int[] {10, 11, 99}) fault("loop " + n + "{let a 1}", 5);
        fault("loop -1{let a 1}", 5);
        fault("loop {let a 1}", 5);
        says("run NAME NUMBER E (a PROGRAM that there is)");
        ChanceSteps x = new ChanceSteps();
        for (int p = 0; p < 6; p++) {
            due("a RUN of " + p, read(x, "run a " + p + " 1"), -106);
            due("a RUN of 6", read(x, "run a 6 1"), -106);
            due("a RUN of 99", read(x, "run a 99 1"), -106);
            due("a PROGRAM", read(x, p == 0 ? "let a 5" : "run a " + (p - 1) + " 1"), p);
            due("its VALUE", x.likeliest(p, 0), 5);
        }
        // behind an image laid back there are fewer
        ChanceSteps y = with("let a 1");
        y.image();
        due("a second", read(y, "let a 2"), 1);
        y.back();
        due("a RUN of one that there is no more", read(y, "run a 1 1"), -106);
    }

    private static void formulas() {
        says("E: SUM, perhaps < or = and a SUM.");
        fault("see 1<2<3", 7);
        fault("see 1=2<3", 7);
        fault("see 1=", 6);
        fault("see <1", 4);
        stands("see (1<2)<3");
        says("An E is an int (32 bits, wrapping)");
        becomes("let a 64*64*64*64*64*4=0", 0, 1);
        becomes("let a 64*64*64*64*64*2<0", 0, 1);
        becomes("let a 64*64*64*64*64*2-1<0", 0, 0);
        becomes("let a 64*64*64*64*64*2-1", 0, 7);
        becomes("let a 64*64*64*64*64*2", 0, 2);
        becomes("let a -(64*64*64*64*64*2)<0", 0, 1);
        becomes("let a (64*64*64*64*64*2-1)+1<0", 0, 1);
        becomes("let a 99*99*99*99*99", 0, 7);
        becomes("let a 0-64*64*64*64*64*2-1", 0, 7);
        says("< and = 1 or 0");
        becomes("let a 2<3", 0, 1);
        becomes("let a 3<3", 0, 0);
        becomes("let a 3<2", 0, 0);
        becomes("let a 0-1<0", 0, 1);
        becomes("let a 3=3", 0, 1);
        becomes("let a 3=2", 0, 0);
        becomes("let a (2=2)+(1<2)*2", 0, 3);
        says("x % y is what is left of x by y, with x's sign (0, if y is 0)");
        becomes("let a 17%7", 0, 3);
        becomes("see 0-17%7=0-3;let a 1", 0, 1);
        becomes("see -17%7=-3;let a 1", 0, 1);
        becomes("see 17%-7=3;let a 1", 0, 1);
        becomes("see -17%-7=-3;let a 1", 0, 1);
        becomes("see 17%1=0;let a 1", 0, 1);
        becomes("see 17%0=0;let a 1", 0, 1);
        becomes("see 0%0=0;see 0%5=0;see -3%0=0;let a 1", 0, 1);
        becomes("see 17%b=0;see b%b=0;let a 1", 0, 1);
        becomes("see (64*64*64*64*64*2)%-1=0;let a 1", 0, 1);
        says("Its DIGIT is what is left of it by 10, 10 more, if that is below 0.");
        int[] of = {0, 1, 9, 10, 11, 99, -1, -9, -10, -11, -99};
        int[] is = {0, 1, 9, 0, 1, 9, 9, 1, 0, 9, 1};
        for (int i = 0; i < of.length; i++) becomes("let a " + of[i], 0, is[i]);
        for (int i = 0; i < of.length; i++) {
            ChanceSteps x = with("see 1", "run b 0 " + of[i]);
            due("DIGIT of a RUN's E", x.likeliest(1, 1), is[i]);
        }
    }

    private static void faults() {
        says("FAULT: the place of the first byte of the first TOKEN that can't stand there");
        fault("let let let", 4);
        fault("see 1  see", 7);
        fault("see (1;see 1)", 6);
        fault("see 1+*2", 6);
        fault("see 1+)", 6);
        fault("if a(see 1){see 1}", 4);
        fault("if a{see 1};{see 1}", 11);
        fault("if a{see 1}", 11);
        fault("if a{see 1}{see 1", 17);
        fault("loop 2 see 1", 7);
        fault("draw a 0;", 8);
        fault("draw 0:2", 5);
        fault("let a =1", 6);
        fault("let # let #", 4);
    }

    private static String closing(int braces, String inner) {
        StringBuilder s = new StringBuilder();
        for (int i = inner.length() - 1; i >= 0; i--) s.append(inner.charAt(i) == '(' ? ")" : "");
        for (int i = 0; i < braces; i++) s.append('}');
        return s.toString();
    }

    private static void opens() {
        says("a {, a ( , a - ahead of a ONE while 4 of these are open");
        for (int braces = 0; braces <= 4; braces++) {
            StringBuilder head = new StringBuilder();
            for (int i = 0; i < braces; i++) head.append("loop 1{");
            for (int kinds = 0; kinds < 32; kinds++) {
                StringBuilder inner = new StringBuilder();
                for (int i = 0; i < 5 - braces; i++) inner.append((kinds >> i & 1) == 0 ? '(' : '-');
                String four = inner.substring(1);
                stands(head + "see " + four + "1" + closing(braces, four));
                fault(head + "see " + inner + "1" + closing(braces, inner.toString()), head.length() + 4 + inner.length() - 1);
            }
            head.append("if 1{see 1}{");
            due("an IF's { in " + braces, read(new ChanceSteps(), head + "see 1}" + closing(braces, "")), braces < 4 ? 0 : -100 - 7 * braces - 4);
        }
        fault("loop 1{loop 1{loop 1{loop 1{loop 1{see 1}}}}}", 34);
        fault("loop 1{loop 1{loop 1{loop 1{loop 1{#", 34);
        fault("see (((((#", 8);
        fault("see -----#", 8);
        says("a { and ( till its } or ), - till its ONE ends");
        stands("see ((((1))))+((((1))))");
        stands("see ----1+----1-----1*----1");
        stands("see -(-1+-(1))");
        stands("see ---(1)-((((a))))");
        stands("see -(-(1+2))*-(-(1))");
        stands("see ----1;see ((((1))));loop 1{loop 1{loop 1{loop 1{see 1}}}};see ----1");
        stands("loop 1{loop 1{see --1;see ((1))};loop 1{loop 1{see 1}};see ((1))}");
        stands("if (((1)))+(--a){loop 1{see ((1))}}{loop 1{loop 1{see (1)}}}");
        stands("if ((((1)))){if (((1))){see 1}{see 1}}{see ---1}");
        fault("see ---(-1)", 8);
        fault("see -(-(-1+2))*-(1)", 8);
        fault("see (((1)+((1))))+(((((1)))))", 22);
        stands("loop 1{loop 1{see ((1))};loop 1{loop 1{see (1)}}}");
        fault("loop 1{loop 1{see ((1))};loop 1{loop 1{see ((1))}}}", 44);
        says("- ahead of a ONE");
        stands("loop 1{loop 1{loop 1{loop 1{see 2-1-1-a}}}}");
        stands("see ((((2-1))))");
        stands("see ----2-1");
        fault("see ((((2--1))))", 10);
        fault("see ((((2*-1))))", 10);
    }

    private static void seventeenSteps() {
        says("the first TOKEN of a 17th STEP (all STEPS of the text are counted)");
        StringBuilder flat = new StringBuilder("see 1");
        for (int i = 0; i < 15; i++) flat.append(";see 1");
        stands(flat.toString());
        due("16 STEPS", with(flat.toString()).told(0, 0), 16);
        fault(flat + ";see 1", 96);
        fault(flat + "; let a 1", 97);
        fault(flat + ";", 96);
        fault(flat + ";#", 96);
        StringBuilder deep = new StringBuilder("if 1{loop 2{see 1;see 1;see 1");
        for (int i = 0; i < 10; i++) deep.append(";see 1");
        stands(deep + "}}{see 1}");
        due("16 STEPS", with(deep + "}}{see 1}").told(0, 0), 16);
        fault(deep + ";see 1}}{see 1}", deep.length() + 9);
        fault(deep + "}}{see 1};see 1", deep.length() + 10);
        fault(deep + "}}{see 1;see 1}", deep.length() + 9);
        // what is RUN is another text
        ChanceSteps x = with(flat.toString(), "see 1;see 1;run a 0 1;run a 0 1");
        due("STEPS of a PROGRAM that RUNS", x.told(1, 0), 4);
        due("its TURNS", x.told(1, 6), 36);
    }

    private static void stepNumbers() {
        says("STEPS are numbered from 0, as they begin.");
        ChanceSteps x = with("see 1", "if 1{let a 1;loop 2{draw b 0:2}}{see 1};run c 0 1");
        int[] kinds = {3, 1, 4, 0, 2, 5};
        for (int i = 0; i < 6; i++) due("KIND", x.step(1, i, 0), kinds[i]);
        for (int i : new int[] {MIN, -1, 6, 15, 16, MAX}) {
            due("a place outside", x.step(1, i, 0), -12);
            due("a place outside", x.taken(1, i, 0), -12);
        }
        due("the only one", x.step(0, 0, 0), 2);
        due("behind the only one", x.step(0, 1, 0), -12);
    }

    private static void bitsAndTurns() {
        says("BITS of a STEP: DRAW: 1, 2, 3, 4 (WEIGHTS come to 2, 4, 8, 16); LET, SEE: 0");
        ChanceSteps x = with("draw a 0:2;draw a 0:1,1:3;draw a 0:8;draw a 0:15,1:1;let a 9;see 1");
        int[] bits = {1, 2, 3, 4, 0, 0};
        for (int i = 0; i < 6; i++) due("BITS", x.step(0, i, 3), bits[i]);
        due("together", x.told(0, 1), 10);
        due("TURNS", x.told(0, 6), 6);
        says("IF: the greater of both BLOCKS'; LOOP: so many times its BLOCK's; RUN: its PROGRAM's");
        x = with("draw a 0:8;draw b 0:2", "if 1{draw a 0:2;draw a 0:4}{draw a 0:4}", "if 1{draw a 0:2}{draw a 0:4;draw a 0:4}",
            "loop 9{draw a 0:4;see 1}", "loop 0{draw a 0:4;run b 0 1}", "run b 0 1;run c 0 1");
        int[] all = {4, 3, 4, 18, 0, 8};
        int[] turns = {2, 4, 4, 19, 1, 6};
        for (int p = 0; p < 6; p++) {
            due("BITS of " + p, x.told(p, 1), all[p]);
            due("TURNS of " + p, x.told(p, 6), turns[p]);
        }
        due("BITS of an IF", x.step(1, 0, 3), 3);
        due("BITS of a LOOP gone through never", x.step(4, 0, 3), 0);
        due("BITS of a DRAW in it", x.step(4, 1, 3), 2);
        due("BITS of a RUN in it", x.step(4, 2, 3), 4);
        says("A text of more than 50 BITS, or more than 60 TURNS, is no PROGRAM (FULL).");
        ChanceSteps y = new ChanceSteps();
        due("51 BITS", read(y, "loop 9{draw a 0:16;draw b 0:2};draw a 0:8;draw a 0:8"), FULL);
        due("50 BITS", read(y, "loop 9{draw a 0:16;draw b 0:2};draw a 0:8;draw a 0:4"), 0);
        due("61 TURNS", read(y, "loop 9{see 1;see 1;see 1;see 1;see 1;see 1};see 1;see 1;see 1;see 1;see 1;see 1"), FULL);
        due("60 TURNS", read(y, "loop 9{see 1;see 1;see 1;see 1;see 1;see 1};see 1;see 1;see 1;see 1;see 1"), 1);
        due("BITS", y.told(0, 1), 50);
        due("TURNS", y.told(1, 6), 60);
        due("61 TURNS by a RUN", read(y, "run a 1 1"), FULL);
        due("50 BITS by a RUN", read(y, "run a 0 1"), 2);
        due("51 BITS by a RUN", read(y, "run a 0 1;draw b 0:2"), FULL);
        due("52 BITS by IFs", read(y, "loop 2{if 1{run a 0 1}{see 1}}"), FULL);
        due("very many", read(y, "loop 9{loop 9{loop 9{loop 9{run a 1 1;run b 0 1;run a 1 1;run b 0 1}}}}"), FULL);
        due("very many, never", read(y, "loop 0{loop 9{loop 9{loop 9{run a 1 1;run b 0 1;run a 1 1;run b 0 1}}}}"), 3);
        due("its BITS", y.told(3, 1), 0);
        due("its TURNS", y.told(3, 6), 1);
    }

    // ---- Terms, 2

    private static void oddsOfSteps() {
        says("ODDS are STATES, each with a WEIGHT (above 0; STATES alike are one, their WEIGHTS together).");
        ChanceSteps x = with("draw a 1:1,1:2,2:1", "draw a 0:1,1:1;see a;see 1", "draw a 1:1,2:1;let b a;let a 0;let b 0");
        due("STATES", x.told(0, 5), 2);
        odds(x, 0, 0, 1, 3, 4);
        due("STATES", x.told(1, 5), 1);
        due("STATES", x.told(2, 5), 1);
        ratio("state", x.state(2, 0, 0), x.state(2, 0, 1), 1, 1);
        says("At first THE START has the WEIGHT 2 to the 50th.");
        x = with("loop 9{draw a 0:15,1:1;draw b 0:1,1:1;see a;see b};loop 5{draw b 0:1,1:1;see b}", "see 1");
        left(x, 0, 1, 1L << 50);
        left(x, 1, 1, 1);
        due("STATES", x.told(0, 5), 1);
        odds(x, 0, 0, 1, 1, 1);
        says("SEE: itself, if E isn't 0, else nothing");
        for (int e : new int[] {-99, -10, -1, 1, 10, 99}) left(with("see " + e), 0, 1, 1);
        left(with("see 0"), 0, 0, 1);
        left(with("see 10-10"), 0, 0, 1);
        left(with("see 64*64*64*64*64*4"), 0, 0, 1);
        left(with("see 64*64*64*64*64*2"), 0, 1, 1);
        says("IF: what the first BLOCK makes of it, if E isn't 0, else what the second makes");
        for (int e : new int[] {-10, -1, 0, 1, 10}) becomes("if " + e + "{let a 1}{let a 2}", 0, e == 0 ? 2 : 1);
        says("LOOP: what its BLOCK makes, so many times");
        becomes("let a 7;loop 0{let a 1;see 0}", 0, 7);
        becomes("loop 1{let a a*2+1}", 0, 1);
        becomes("loop 3{let a a*2+1}", 0, 7);
        becomes("loop 3{loop 3{let a a+1}}", 0, 9);
    }

    private static void runs() {
        says("RUN: of the PROGRAM, begun at the STATE in which a is DIGIT of E, all others 0");
        ChanceSteps x = with("let a a+10*(b+c+d+e+f)+(b+c+d+e+f)", "run b 0 b-1", "run f 0 c*10+9");
        for (int name = 0; name < 6; name++) x.let(name, 3);
        due("STATES ahead don't matter", x.likeliest(1, 6), 323333);
        due("STATES ahead don't matter, by a SEED", x.comes(1, 3), 323333);
        due("a DIGIT", x.likeliest(2, 6), 333339);
        due("a DIGIT, by a SEED", x.comes(2, 3), 333339);
        x.let(1, 0);
        due("a DIGIT below 0", x.likeliest(1, 6), 393333);
        due("a DIGIT below 0, by a SEED", x.comes(1, 3), 393333);
        x = with("let a a+b+c+d+e+f", "let b 9;let c 9;let d 9;let e 9;let f 9;let a 9;run a 0 4");
        due("all others 0", x.likeliest(1, 6), 499999);
        due("all others 0, by a SEED", x.comes(1, 3), 499999);
        // what was RUN before in its place is forgotten
        x = with("let a 4");
        x.image();
        for (int v = 9; v >= 0; v--) {
            due("a PROGRAM", read(x, "let a " + v + "+0*a"), 1);
            due("what RUNS it", read(x, "run b 1 0;run c 1 7"), 2);
            due("what comes of it", x.likeliest(2, 6), v * 11000);
            due("back", x.back(), 1);
        }
        deepRuns();
        says("for each VALUE that a may have at its end the STATE with that VALUE of the NAME");
        x = with("draw a 0:1,9:3;draw b 0:1,1:1", "run c 0 1", "run c 0 1;run d 0 1");
        due("STATES at the end of what is RUN", x.told(0, 5), 4);
        due("STATES behind the RUN", x.told(1, 5), 2);
        odds(x, 1, 2, 9, 3, 4);
        odds(x, 1, 0, 0, 1, 1);
        due("drawn anew", x.apart(2, 2, 3), 1);
        ratio("state", x.state(2, 9900, 0), x.state(2, 9900, 1), 9, 16);
        says("its WEIGHT is times that VALUE's, by 2 to the 50th (it is always a whole number)");
        x = with("loop 6{draw b 0:1,1:15;see b};draw a 0:1,1:1;see a", "run c 0 1;run d 0 1");
        long above = 1;
        for (int i = 0; i < 12; i++) above *= 15;
        left(x, 1, above, 1L << 50);
        x = with("see a", "run c 0 0", "draw a 0:1,1:3;run c 0 a");
        left(x, 1, 0, 1);
        left(x, 2, 3, 4);
        x = with("loop 9{draw b 0:15,1:1;draw c 0:1,1:1;see b*c};loop 5{draw c 0:1,1:1;see c}", "run f 0 0", "run f 1 0");
        left(x, 2, 1, 1L << 50);
    }

    /** Six PROGRAMS, each but the first RUN by the next one, in four BLOCKS each. */
    private static void deepRuns() {
        String[] heads = {"loop 1{", "if 1{", "if 0{see 0}{"};
        String[] feet = {"}", "}{see 0}", "}"};
        for (int kinds = 0; kinds < 9; kinds++) {
            ChanceSteps x = new ChanceSteps();
            for (int p = 0; p < 6; p++) {
                StringBuilder head = new StringBuilder();
                StringBuilder foot = new StringBuilder();
                for (int i = 0; i < 4; i++) {
                    int kind = i % 2 == 0 ? kinds % 3 : kinds / 3;
                    head.append(heads[kind]);
                    foot.insert(0, feet[kind]);
                }
                due("a deep one", read(x, head + (p == 0 ? "let a a+1" : "run a " + (p - 1) + " a+1") + foot), p);
            }
            x.let(0, 2);
            due("as deep as can be", x.likeliest(5, 6), 800000);
            due("as deep as can be, by a SEED", x.comes(5, 1), 800000);
            due("as deep as can be, peak", x.peak(5, NONE), 1);
            due("as deep as can be, a asked for", x.peak(5, 1), 1);
            due("as deep as can be, b asked for", x.peak(5, 2), 1);
            due("as deep as can be, NEEDED", x.needed(5, 1), 1);
            due("TURNS", x.told(5, 6) > 60 ? 0 : 1, 1);
        }
    }

    private static void wide() {
        says("there are more than 300 STATES at once");
        ChanceSteps x = with(SIX, SEVEN, "draw a 0:1,1:1;draw b 0:1,1:1,2:1,3:1,4:4;draw c 0:1,1:1,2:1,3:1,4:4;draw d 0:1,1:1,2:1,3:1,4:1,5:3",
            "run a 0 0;run b 1 0;if a+b{see 1}{draw c 0:1,1:1};draw d 0:1,1:1,2:1,3:1,4:1,5:1,6:2",
            "run a 0 0;run b 1 0;if a+b{see 1}{draw c 0:1,1:1};run d 1 0;see a+b=0",
            "run a 0 0;run b 1 0;if a+b{see 1}{draw c 0:1,1:1};run d 0 0");
        due("300 behind a DRAW", x.told(2, 4), 0);
        due("300 behind a DRAW", x.told(2, 5), 300);
        due("300 behind a DRAW", x.peak(2, NONE), 300);
        due("301 behind a DRAW", x.told(3, 4), 1);
        due("301 behind a DRAW", x.told(3, 5), WIDE);
        due("301 behind a DRAW", x.peak(3, NONE), WIDE);
        due("301 behind a RUN, 14 at the end", x.told(4, 4), 1);
        due("301 behind a RUN", x.peak(4, NONE), WIDE);
        due("258 behind a RUN", x.told(5, 5), 258);
        x = with("draw a 0:1,1:1,2:1,3:1,4:4", "run a 0 0;run b 0 0;draw c 0:1,1:1;draw d 0:1,1:1,2:1,3:1,4:1,5:3", "run a 1 0;see 1",
            "run a 0 0;run b 0 0;draw c 0:1,1:1;run d 0 0");
        due("300", x.told(1, 5), 300);
        due("250", x.told(3, 5), 250);
        says("WIDE [..] behind a STEP, [not within it]");
        // 8 times 8 times 8 LOTS fall on 64 STATES each time
        x = with("draw a 0:1,1:1,2:1,3:1,4:1,5:1,6:1,7:1;draw b 0:1,1:1,2:1,3:1,4:1,5:1,6:1,7:1;draw b 0:1,1:1,2:1,3:1,4:1,5:1,6:1,7:1");
        due("64", x.told(0, 5), 64);
        due("64", x.peak(0, NONE), 64);
    }

    private static void wideInIfs() {
        says("WIDE, if behind a STEP (also of a BLOCK [..])");
        ChanceSteps x = with(EIGHT, BULGE, "if 1{" + BULGE + "}{see 1}", "if 0{see 1}{" + BULGE + "}", "loop 1{" + BULGE + "}",
            "if 0{" + BULGE + "}{loop 0{run a 0 0;run b 0 0;run c 0 0}}");
        for (int p = 1; p < 6; p++) due("WIDE", x.told(p, 4), p == 5 ? 0 : 1);
        says("WIDE [..] of an IF or LOOP at its end, too");
        String fifty = "run a 0 0;run b 0 0;draw c 0:1,1:1;draw d 0:1,1:1,2:1,3:1,4:1,5:3;";
        x = with(FIVE, fifty + "if a+b+c+d{see 1}{draw e 0:2};see a=0", fifty + "if a+b+c+d{see 1}{draw e 0:1,1:1};see a=0",
            fifty + "if a+b+c+d{draw e 0:2}{see 1};see a=0");
        due("300 at an IF's end", x.told(1, 5), 60);
        due("301 at an IF's end", x.told(2, 5), WIDE);
        due("300 at an IF's end", x.told(3, 5), 60);
        due("300 at an IF's end", x.peak(1, NONE), 300);
        due("301 at an IF's end", x.peak(2, NONE), WIDE);
        due("300 at an IF's end", x.peak(3, NONE), 300);
        says("(of an IF's BLOCKS just those that came into it)");
        x = with(EIGHT, "run a 0 0;run b 0 0;draw c 0:1,1:3;if a<4{draw d 0:1,1:1;let d 0}{draw d 0:1,1:1;let d 1}",
            "run a 0 0;run b 0 0;draw c 0:1,1:3;if a<5{draw d 0:1,1:1;let d 0}{draw d 0:1,1:1;let d 1}",
            "run a 0 0;run b 0 0;draw c 0:1,1:3;if a<4{draw d 0:1,1:1,2:2;let d 0}{see 1}",
            "run a 0 0;run b 0 0;if a<4{draw d 0:1,1:1,2:2;let d 0}{draw d 0:2,1:1,2:1;let d 1}");
        due("128 in each, 64 and 64 come into them", x.told(1, 5), 128);
        due("128 in each", x.peak(1, NONE), 128);
        due("160 in one, 96 in the other", x.peak(2, NONE), 160);
        due("192 in one", x.peak(3, NONE), 192);
        due("96 in each", x.peak(4, NONE), 96);
        x = with(EIGHT, "run a 0 0;run b 0 0;draw c 0:1,1:1,2:2;if a<4{draw d 0:1,1:1,2:2;let d 0}{draw d 0:1,1:1,2:2;let d 0}",
            "run a 0 0;run b 0 0;draw c 0:1,1:1,2:2;if a<5{draw d 0:1,1:1,2:2;let d 0}{see 1}");
        due("288 in each, 576 together", x.told(1, 5), 192);
        due("288 in each", x.peak(1, NONE), 288);
        due("360 in one", x.told(2, 5), WIDE);
    }

    private static void wideInLoopsAndRuns() {
        says("WIDE [..] of a LOOP each time");
        ChanceSteps x = with(SEVEN, "loop 2{let a b;let b c;run c 0 0}", "loop 3{let a b;let b c;run c 0 0}",
            EIGHT, "let f 2;loop 3{let f f-1;if f{see 1}{run a 3 0;run b 3 0;run c 3 0;let a 0;let b 0;let c 0}}",
            "let f 4;loop 3{let f f-1;if f{see 1}{run a 3 0;run b 3 0;run c 3 0;let a 0;let b 0;let c 0}}");
        due("49 the second time", x.told(1, 5), 49);
        due("343 the third time", x.told(2, 5), WIDE);
        due("512 the second of three times", x.told(4, 4), 1);
        due("never", x.told(5, 4), 0);
        due("343 the third time", x.peak(2, NONE), WIDE);
        due("512 the second of three times", x.peak(4, NONE), WIDE);
        x = with(EIGHT, "loop 0{" + BULGE + "}", "loop 2{run a 0 0;run b 0 0;run c 0 1;see c<4}", "loop 2{run a 0 0;run b 0 0;draw c 0:1,1:1;see c<1}");
        due("gone through never", x.told(1, 5), 1);
        due("WIDE the first time", x.told(2, 5), WIDE);
        due("128 each time", x.peak(3, NONE), 128);
        says("WIDE [..] of what it RUNS");
        x = with(EIGHT, "if a{" + BULGE + "}{see 1}", "run f 1 0", "run f 1 b", "if b{run f 1 1;let f 0}{see 1}", "run e 4 c;run f 3 0");
        due("another DIGIT", x.told(2, 5), 1);
        due("another DIGIT", x.told(3, 5), 1);
        x.let(0, 1);
        due("WIDE itself", x.told(1, 4), 1);
        due("not by another DIGIT", x.told(2, 4), 0);
        x.let(1, 1);
        due("WIDE by this DIGIT", x.told(3, 4), 1);
        due("WIDE by what it RUNS", x.told(3, 5), WIDE);
        due("WIDE in a BLOCK by what it RUNS", x.told(4, 4), 1);
        due("what it RUNS begins with b 0", x.told(5, 4), 0);
        // no STATE comes to the RUN
        x = with(EIGHT, BULGE, "see 0;run f 1 0", "draw a 0:1,1:1;see a=2;if a{run f 1 0}{run f 1 1}", "draw a 0:1,1:1;if a=2{run f 1 0}{see 1}");
        due("WIDE", x.told(1, 4), 1);
        for (int p = 2; p < 5; p++) due("no STATE comes to the RUN", x.told(p, 4), 0);
    }

    private static void voids() {
        says("LEFT: the WEIGHT of all at its end, together; VOID: that is 0.");
        ChanceSteps x = with("see 0", "draw a 0:15,1:1;see a=2", "loop 9{draw a 0:15,1:1;draw b 0:1,1:1;see a;see b};loop 5{draw b 0:1,1:1;see b}",
            "run b 0 1", "if 1{see 1}{see 0}", "if 0{see 1}{see 0}");
        for (int p = 0; p < 6; p++) {
            boolean is = p != 2 && p != 4;
            left(x, p, is ? 0 : 1, p == 2 ? 1L << 50 : 1);
            due("STATES", x.told(p, 5), is ? 0 : 1);
            due("WIDE", x.told(p, 4), 0);
            due("likeliest", x.likeliest(p, 5), is ? VOID : 0);
            due("likeliest STATE", x.likeliest(p, 6) == VOID ? 1 : 0, is ? 1 : 0);
            due("apart", x.apart(p, 4, 5), is ? VOID : 1);
            due("alike", x.alike(p, p), is ? VOID : 1);
            due("film", x.film(0, p, 0), is ? VOID : 10);
            due("tells", x.tells(0, p, 5, 0) == VOID ? 1 : 0, is ? 1 : 0);
            ratio("odds", x.odds(p, 5, 0, 0), x.odds(p, 5, 0, 1), is ? NO : 1, is ? NO : 1);
            ratio("state", x.state(p, 1, 0), x.state(p, 1, 1), is ? NO : 0, is ? NO : 1);
            ratio("fold", x.fold(p, 5, 5, 0), x.fold(p, 5, 5, 1), is ? NO : 9, is ? NO : 1);
            due("peak", x.peak(p, NONE) > 0 ? 1 : 0, 1);
        }
    }

    private static void probabilities() {
        says("P of something: the WEIGHT of STATES at the end of which it is so, by LEFT.");
        String rare = "let e 1;loop 9{draw b 0:1,1:15;let e e*(b=0)};loop 3{draw b 0:1,1:15;let e e*(b=0)};draw b 0:1,1:3;let a 9-9*e*(b=0)";
        ChanceSteps x = with(rare, rare.substring(0, rare.lastIndexOf(";let a")) + ";see e*(b=0)");
        long all = 1L << 50;
        due("BITS", x.told(0, 1), 50);
        odds(x, 0, 0, 9, all - 1, all);
        odds(x, 0, 0, 0, 1, all);
        odds(x, 0, 0, 5, 0, 1);
        left(x, 1, 1, all);
        odds(x, 1, 1, 0, 1, 1);
        says("part 0 above, 1 below the line, in lowest terms");
        x = with("draw a 0:8,1:8", "draw a 0:6,1:10", "draw a 0:15,1:1;see a", "draw a 1:1,2:1,3:1,4:1;see a<4", "see 0");
        odds(x, 0, 0, 0, 1, 2);
        odds(x, 1, 0, 0, 3, 8);
        odds(x, 1, 0, 2, 0, 1);
        odds(x, 2, 0, 1, 1, 1);
        odds(x, 3, 0, 2, 1, 3);
        left(x, 3, 3, 4);
        left(x, 4, 0, 1);
        ratio("fold", x.fold(3, 0, 0, 0), x.fold(3, 0, 0, 1), 2, 1);
        ratio("often", x.often(0, 0, 20, 0, 5, 0), x.often(0, 0, 20, 0, 5, 1), 0, 1);
        for (int part : new int[] {MIN, -1, 2, MAX}) {
            due("left", x.left(0, part), NO);
            due("odds", x.odds(0, 0, 0, part), NO);
            due("state", x.state(0, 0, part), NO);
            due("fold", x.fold(0, 0, 0, part), NO);
            due("often", x.often(0, 0, 1, 0, 0, part), BAD);
        }
    }

    private static void folds() {
        says("G of v: MEAN: v; SQUARE: v times a MEAN's; EVEN: 1, if a MEAN's is even, else 0; CUBE; ODD: 1 less an EVEN's; REST: 9 less a MEAN's.");
        long[][] of = {{0, 1, 2, 3, 4, 5, 6, 7, 8, 9}, {0, 1, 4, 9, 16, 25, 36, 49, 64, 81}, {1, 0, 1, 0, 1, 0, 1, 0, 1, 0},
            {0, 1, 8, 27, 64, 125, 216, 343, 512, 729}, {0, 1, 0, 1, 0, 1, 0, 1, 0, 1}, {9, 8, 7, 6, 5, 4, 3, 2, 1, 0}};
        ChanceSteps x = with("see 1");
        for (int v = 0; v < 10; v++) {
            x.let(4, v);
            for (int kind = 0; kind < 6; kind++) ratio("fold by " + kind, x.fold(0, 4, kind, 0), x.fold(0, 4, kind, 1), of[kind][v], 1);
        }
        says("FOLDS of KINDS: 0 MEAN, [..] 5 REST");
        for (int kind : new int[] {MIN, -1, 6, 7, MAX}) ratio("fold by " + kind, x.fold(0, 4, kind, 0), x.fold(0, 4, kind, 1), NO, NO);
        says("FOLD of a NAME: the sum of G of its VALUE times P of that.");
        String rare = "let e 1;loop 9{draw b 0:1,1:15;let e e*(b=0)};loop 3{draw b 0:1,1:15;let e e*(b=0)};draw b 0:1,1:3;let a 9-9*e*(b=0)";
        x = with(rare);
        long all = 1L << 50;
        ratio("the greatest", x.fold(0, 0, 3, 0), x.fold(0, 0, 3, 1), 729 * (all - 1), all);
        ratio("MEAN", x.fold(0, 0, 0, 0), x.fold(0, 0, 0, 1), 9 * (all - 1), all);
        ratio("EVEN", x.fold(0, 0, 2, 0), x.fold(0, 0, 2, 1), 1, all);
        ratio("ODD", x.fold(0, 0, 4, 0), x.fold(0, 0, 4, 1), all - 1, all);
        ratio("REST", x.fold(0, 0, 5, 0), x.fold(0, 0, 5, 1), 9, all);
    }

    private static void apart() {
        says("APART are two NAMES (or one and the same), if for all VALUES P of both is the product of P of each.");
        ChanceSteps x = with("draw a 0:1,9:1;let b 9-a;draw c 0:1,9:3;let d 4", "draw a 0:1,1:1;draw b 0:1,1:1;let c a*b;let d a+b;let e (a+b)%2",
            "loop 9{draw c 0:1,1:15;let a (a+c)%3;draw d 0:1,1:1;let b (b+d)%3};see a;draw f 0:1,1:1,2:2", "draw a 0:1,1:1,2:2;let b a=1");
        int[][] want = {{1, 2, 1}, {0, 1, 0}, {1, 0, 0}, {0, 2, 1}, {0, 3, 1}, {3, 0, 1}, {3, 3, 1}, {0, 0, 0}, {4, 5, 1}, {5, 5, 1}};
        for (int[] w : want) due("apart(0, " + w[0] + ", " + w[1] + ")", x.apart(0, w[0], w[1]), w[2]);
        int[][] wantOf1 = {{0, 1, 1}, {0, 2, 0}, {1, 3, 0}, {0, 4, 1}, {1, 4, 1}, {2, 4, 0}, {3, 4, 0}, {4, 4, 0}};
        for (int[] w : wantOf1) due("apart(1, " + w[0] + ", " + w[1] + ")", x.apart(1, w[0], w[1]), w[2]);
        due("by 45 BITS", x.apart(2, 0, 1), 1);
        due("by 45 BITS, the other way", x.apart(2, 1, 0), 1);
        due("by 47 BITS", x.apart(2, 5, 0), 1);
        due("by 45 BITS, hanging together", x.apart(2, 0, 2), 0);
        due("only some VALUES hang together", x.apart(3, 0, 1), 0);
        due("only some VALUES hang together", x.apart(3, 1, 0), 0);
        // P of both is what the product is for all but few VALUES
        x = with("draw a 0:1,1:1;draw b 0:1,1:1;draw c 0:15,1:1;see a+b+c", "draw a 0:1,1:1;draw b 0:1,1:1;see a+b<2");
        due("seen together", x.apart(0, 0, 1), 0);
        due("seen together", x.apart(1, 0, 1), 0);
    }

    private static void needed() {
        says("NEEDED (of a set of NAMES asked for at the end): behind the last STEP just these");
        ChanceSteps x = with("loop 0{let a b;see c}", "draw a 0:2", "let a b", "see b", "if b{let a c}{let a d}", "loop 2{let a b;let b c}");
        for (int names = 0; names < 64; names++) due("needed(0, " + names + ")", x.needed(0, names), names);
        says("DRAW: that less the NAME; LET: if the NAME is NEEDED, that less it, and the NAMES in E; else that; SEE: that, and the NAMES in E");
        for (int names = 0; names < 64; names++) {
            boolean a = names % 2 == 1;
            due("DRAW", x.needed(1, names), names & 62);
            due("LET", x.needed(2, names), a ? names & 62 | 2 : names);
            due("SEE", x.needed(3, names), names | 2);
            due("IF", x.needed(4, names), a ? names & 62 | 14 : names | 2);
            int once = (names & 2) != 0 ? names & 61 | 4 : names;
            once = (once & 1) != 0 ? once & 62 | 2 : once;
            int twice = (once & 2) != 0 ? once & 61 | 4 : once;
            due("LOOP", x.needed(5, names), (twice & 1) != 0 ? twice & 62 | 2 : twice);
        }
        due("LET of itself", with("let a a+1").needed(0, 1), 1);
        due("LET of no NAMES", with("let a 1").needed(0, 1), 0);
        says("RUN: if the NAME is NEEDED, or its PROGRAM SEES (it has a SEE, or a RUN of one that SEES), that less the NAME, and the NAMES in E; else that.");
        x = with("let a b", "loop 0{if 1{let a 1}{see 1}}", "run a 1 0", "run c 0 d", "run c 1 d", "run c 2 d");
        int[] sees = {0, 1, 1, 0, 1, 1};
        for (int p = 0; p < 6; p++) due("SEES", x.told(p, 2), sees[p]);
        for (int names = 0; names < 64; names++) {
            int less = names & ~4 | 8;
            due("RUN of one that doesn't SEE", x.needed(3, names), (names & 4) != 0 ? less : names);
            due("RUN of one that SEES", x.needed(4, names), less);
            due("RUN of one that RUNS one that SEES", x.needed(5, names), less);
        }
    }

    private static void forgotten() {
        says("FORGOTTEN: behind each STEP (also of BLOCKS) and ahead of the first all NAMES that aren't NEEDED there have the VALUE 0.");
        ChanceSteps x = with("draw a 0:1,1:1;draw b 0:1,1:1;draw c 0:1,1:1", "draw a 0:1,1:1;if a{draw b 0:1,1:1;draw c 0:1,1:1}{draw d 0:1,1:1}",
            "draw a 0:1,1:1;let b a;draw a 0:1,1:1", "loop 3{let f e;let e d;draw d 0:1,1:1}");
        int[] of0 = {1, 2, 2, 4, 2, 4, 4, 8};
        for (int names = 0; names < 8; names++) due("peak(0, " + names + ")", x.peak(0, names), of0[names]);
        // the VALUE of a is NEEDED for the IF, and isn't behind it
        due("of BLOCKS, none", x.peak(1, 0), 2);
        due("of BLOCKS, b", x.peak(1, 2), 2);
        due("of BLOCKS, b and c", x.peak(1, 6), 4);
        due("of BLOCKS, all", x.peak(1, 63), 6);
        due("of BLOCKS, nothing FORGOTTEN", x.peak(1, NONE), 6);
        due("a NAME is drawn anew", x.peak(2, 2), 2);
        due("a NAME is drawn anew", x.peak(2, 3), 4);
        due("a NAME is drawn anew", x.peak(2, 1), 2);
        due("of a LOOP, f", x.peak(3, 32), 2);
        due("of a LOOP, d", x.peak(3, 8), 2);
        due("of a LOOP, e", x.peak(3, 16), 2);
        due("of a LOOP, all", x.peak(3, 56), 8);
        // what is NEEDED ahead of the first has its VALUE of THE START
        ChanceSteps y = with("if c{draw a 0:1,1:1}{see 1}", "see c;draw a 0:1,1:1", "let a c;if a{draw b 0:1,1:1}{see 1}");
        for (int c = 0; c < 2; c++) {
            due("THE START", y.let(2, c), 0);
            for (int p = 0; p < 3; p++) {
                due("nothing FORGOTTEN, c " + c, y.peak(p, NONE), c + 1);
                due("asked, c " + c, y.peak(p, p == 2 ? 2 : 1), c + 1);
                due("all asked, c " + c, y.peak(p, 63), c + 1);
            }
        }
        y = with("draw a 0:1,1:1;if a{see 1}{draw b 0:1,1:1,2:2;let b 0}", "draw a 0:1,1:1;if a{draw b 0:1,1:1,2:2;let b 0}{see 1}",
            "draw a 0:1,1:1;if a{see 1}{draw b 0:1,1:1,2:2;see b=0}");
        for (int p = 0; p < 3; p++) {
            due("3 of one BLOCK", y.peak(p, NONE), 3);
            due("3 of one BLOCK, all asked", y.peak(p, 63), p == 2 ? 3 : 2);
        }
        says("A RUN of which the NAME isn't NEEDED, of a PROGRAM that doesn't SEE, is left out then.");
        x = with(EIGHT, "draw a 0:1,1:1;see a", BULGE, "draw d 0:1,1:1;run b 0 d;run c 2 d;let c 0", "run c 2 0;run b 1 0;let b 0", "run b 1 0;run c 1 0");
        due("left out", x.peak(3, 0), 1);
        due("left out but for b", x.peak(3, 2), 8);
        due("left out, c and d", x.peak(3, 12), 2);
        due("a WIDE one isn't, if c is NEEDED", x.peak(4, 4), WIDE);
        due("left out, but what SEES", x.peak(4, 2), 1);
        due("what SEES isn't left out", x.peak(5, 0), 1);
        due("what SEES isn't left out, b", x.peak(5, 2), 1);
        // what SEES is gone through, also if its NAME isn't NEEDED: it may leave nothing to count
        x = with(EIGHT, BULGE + ";see 1", "run f 1 0;draw e 0:1,1:1", BULGE, "run f 3 0;draw e 0:1,1:1", "see 0;run f 1 0");
        due("what SEES may be WIDE", x.peak(2, 16), WIDE);
        due("what doesn't SEE is left out", x.peak(4, 16), 2);
        due("what doesn't SEE is WIDE, if NEEDED", x.peak(4, 48), WIDE);
        due("no STATE comes to it", x.peak(5, 0), 1);
    }

    private static void peaks() {
        says("PEAK: how many STATES there are at most at once ahead of the first or behind any STEP (as of WIDE, but not of what it RUNS)");
        ChanceSteps x = with(EIGHT, "draw a 0:1,1:1,2:2;draw b 0:1,1:1,2:2;see a*b=4", "see 0;draw a 0:1,1:1", "run a 0 0;run b 0 0;see 0;let a 1",
            "run f 3 0", "run f 1 0;draw a 0:1,1:1");
        due("8", x.peak(0, NONE), 8);
        due("9 ahead of the last", x.peak(1, NONE), 9);
        due("one ahead of the first", x.peak(2, NONE), 1);
        due("one ahead of the first", x.peak(2, 1), 1);
        due("64", x.peak(3, NONE), 64);
        due("64, as a and b are drawn and nothing of them is NEEDED", x.peak(3, 0), 1);
        due("not of what it RUNS", x.peak(4, NONE), 1);
        due("not of what it RUNS", x.peak(4, 63), 1);
        due("behind a RUN", x.peak(5, NONE), 2);
        ChanceSteps y = with("if a{draw b 0:1,1:1,2:2;let b 0}{see 1}", "loop 2{draw b 0:1,1:1,2:2;see b=0}", "if a<5{draw b 0:1,1:1;draw b 1:2}{draw b 0:4}");
        due("a BLOCK that isn't gone into", y.peak(0, NONE), 1);
        due("of a LOOP each time", y.peak(1, NONE), 3);
        due("of a BLOCK", y.peak(2, NONE), 2);
        y.let(0, 5);
        due("a BLOCK that is gone into", y.peak(0, NONE), 3);
        due("a BLOCK that isn't gone into", y.peak(2, NONE), 1);
        due("THE START is as it was", y.count(2), 500000);
    }

    // ---- by seeds

    private static int lot(int seed, int n, int all) {
        int z = seed;
        for (int i = 0; i <= n; i++) z = z * 1103515245 + 12345;
        return (z >>> 9) % all;
    }

    private static void seeds() {
        says("the LOT in which ((z >>> 9) % what all WEIGHTS come to) falls (WEIGHTS one behind another)");
        ChanceSteps x = with("draw b 9:1,8:3,7:4", "draw b 5:16", "draw b 0:1,1:1,2:1,3:1,4:1,5:1,6:1,7:1", "draw b 1:1,0:1;draw c 4:15,5:1");
        int[] falls = {9, 8, 8, 8, 7, 7, 7, 7};
        int[] found = new int[8];
        for (int seed = -40; seed < 40; seed++) {
            int s = seed * 77777777;
            int l = lot(s, 0, 8);
            found[l]++;
            due("comes(0, " + s + ")", x.comes(0, s), falls[l] * 10000);
            due("comes(1, " + s + ")", x.comes(1, s), 50000);
            due("comes(2, " + s + ")", x.comes(2, s), l * 10000);
            due("comes(3, " + s + ")", x.comes(3, s), (1 - lot(s, 0, 2)) * 10000 + (lot(s, 1, 16) < 15 ? 4000 : 5000));
        }
        for (int l = 0; l < 8; l++) due("each is found", found[l] > 0 ? 1 : 0, 1);
        says("z being z * 1103515245 + 12345 (an int; SEED at first) anew for each DRAW");
        x = with("loop 6{let f e;let e d;let d c;let c b;let b a;draw a 0:1,1:1,2:1,3:1,4:1,5:1,6:1,7:1}");
        for (int seed : new int[] {MIN, MIN + 1, -2, -1, 0, 1, 2, MAX - 1, MAX}) {
            int want = 0;
            for (int n = 5; n >= 0; n--) want = want * 10 + lot(seed, n, 8);
            due("comes(0, " + seed + ")", x.comes(0, seed), want);
        }
        says("what is RUN goes on with the same z; a SEE that isn't so: nothing COMES");
        x = with("draw a 0:1,1:1,2:1,3:1,4:1,5:1,6:1,7:1;see a", "draw b 0:1,1:1;run c 0 0;draw d 0:1,1:3", "see 0", "if 0{see 0}{let a 1}",
            "loop 0{see 0}", "see 0-1;run b 2 1");
        for (int seed = 0; seed < 40; seed++) {
            int c = lot(seed, 1, 8);
            int want = lot(seed, 0, 2) * 10000 + c * 1000 + (lot(seed, 2, 4) > 0 ? 100 : 0);
            due("comes(1, " + seed + ")", x.comes(1, seed), c == 0 ? NONE : want);
        }
        due("nothing", x.comes(2, 0), NONE);
        due("a SEE in a BLOCK not gone into", x.comes(3, 0), 100000);
        due("a SEE gone through never", x.comes(4, 0), 0);
        due("a SEE in what is RUN", x.comes(5, 0), NONE);
        says("from THE START");
        for (int name = 0; name < 6; name++) x.let(name, 9 - name);
        due("from THE START", x.comes(4, 0), 987654);
        due("from THE START", x.comes(3, 0), 187654);
    }

    private static void often() {
        says("OFTEN in m seeds (1 .. 20), SEED and each 1 more (an int): of those by which something COMES those by which a NAME has a VALUE.");
        ChanceSteps x = with("draw a 0:1,1:1,2:2;see a", "see 0", "draw a 0:1,1:7;see a", "let b 4");
        for (int seed : new int[] {MIN, -19, -1, 0, MAX - 19, MAX - 10, MAX - 1, MAX}) {
            for (int m : new int[] {1, 2, 19, 20}) {
                int all = 0;
                int such = 0;
                for (int i = 0; i < m; i++) {
                    int l = lot(seed + i, 0, 4);
                    all += l > 0 ? 1 : 0;
                    such += l > 1 ? 1 : 0;
                }
                int by = 1;
                for (int d = 1; d <= all; d++) by = all % d == 0 && such % d == 0 ? d : by;
                due("often(0, " + seed + ", " + m + ")", x.often(0, seed, m, 0, 2, 0), all == 0 ? NONE : such / by);
                due("often(0, " + seed + ", " + m + ")", x.often(0, seed, m, 0, 2, 1), all == 0 ? NONE : all / by);
            }
        }
        for (int m : new int[] {MIN, -1, 0, 21, 22, MAX}) due("m " + m, x.often(0, 0, m, 0, 0, 0), BAD);
        says("NONE: nothing COMES by any");
        due("nothing by any", x.often(1, 0, 20, 0, 0, 0), NONE);
        due("nothing by any", x.often(1, 0, 1, 0, 0, 1), NONE);
        int none = 0;
        int some = 0;
        for (int seed = 0; seed < 64; seed++) {
            boolean comes = lot(seed, 0, 8) > 0;
            due("by one", x.often(2, seed, 1, 0, 1, 0), comes ? 1 : NONE);
            none += comes ? 0 : 1;
            some += comes ? 1 : 0;
        }
        due("both are found", none > 0 && some > 0 ? 1 : 0, 1);
        ratio("always", x.often(3, 0, 20, 1, 4, 0), x.often(3, 0, 20, 1, 4, 1), 1, 1);
        ratio("never", x.often(3, 0, 20, 1, 5, 0), x.often(3, 0, 20, 1, 5, 1), 0, 1);
        due("BAD, though nothing COMES", x.often(1, 0, 0, 0, 0, 0), BAD);
    }

    // ---- what was told

    private static void told() {
        says("a SHEET tells hundredths of P of VALUES 0, 1, .. of a NAME (10 numbers at most; 100 times P, cut): the first that is otherwise; NONE");
        ChanceSteps x = with("draw a 0:1,1:2,9:5", "draw a 1:1,2:1,3:1,4:1;see a<4", "let a 9");
        int[] of0 = {12, 25, 0, 0, 0, 0, 0, 0, 0, 62};
        int[] of1 = {0, 33, 33, 33, 0, 0, 0, 0, 0, 0};
        int[] of2 = {0, 0, 0, 0, 0, 0, 0, 0, 0, 100};
        int[][] of = {of0, of1, of2};
        for (int sort = 0; sort < 2; sort++) {
            for (int p = 0; p < 3; p++) {
                for (int n = 0; n <= 10; n++) {
                    x.sheet(0, sort, n);
                    for (int v = 0; v < n; v++) x.cell(0, v, of[p][v]);
                    due("as told", x.tells(0, p, 0, 0), NONE);
                    for (int v = n - 1; v >= 0; v--) {
                        x.cell(0, v, of[p][v] + 1);
                        due("otherwise by 1 more", x.tells(0, p, 0, 0), v);
                    }
                    for (int v = 0; v < n; v++) x.cell(0, v, of[p][v]);
                    for (int v = n - 1; v >= 0; v--) {
                        x.cell(0, v, of[p][v] - 1);
                        due("otherwise by 1 less", x.tells(0, p, 0, 0), v);
                    }
                }
                for (int n : new int[] {11, 12, 40}) {
                    x.sheet(0, sort, n);
                    for (int what = 0; what < 4; what++) due("more than 10", x.tells(0, p, 0, what), BAD);
                }
            }
        }
        for (int what : new int[] {MIN, -1, 4, MAX}) due("what", x.tells(0, 0, 0, what), BAD);
        for (int s : new int[] {MIN, -1, 4, MAX}) due("sheet", x.tells(s, 0, 0, 0), BAD);
        // bytes keep their lowest 8 bits, ints keep all
        x.sheet(1, 0, 2);
        x.cell(1, 0, 256 + 12);
        x.cell(1, 1, 25 - 256);
        due("bytes", x.tells(1, 0, 0, 0), NONE);
        x.sheet(1, 1, 2);
        x.cell(1, 0, 12);
        x.cell(1, 1, 25 - 256);
        due("ints", x.tells(1, 0, 0, 0), 1);
        says("cut");
        String rare = "let e 1;loop 9{draw b 0:1,1:15;let e e*(b=0)};loop 3{draw b 0:1,1:15;let e e*(b=0)};draw b 0:1,1:3;let a 9-9*e*(b=0)";
        ChanceSteps y = with(rare);
        due("film", y.film(0, 0, 0), 10);
        y.sheet(1, 0, 10);
        y.cell(1, 9, 99);
        due("all but one of 2 to the 50th is 99, that one is 0", y.tells(1, 0, 0, 0), NONE);
        due("as the film has it", y.tells(0, 0, 0, 0), NONE);
        y.cell(1, 9, 100);
        due("and isn't 100", y.tells(1, 0, 0, 0), 9);
    }

    private static void toldBy() {
        says("PROGRAMS (bits; not WIDE, not VOID) [..] by which all would be so");
        ChanceSteps x = with(COIN, "see 0", EIGHT, "run a 2 0;run b 2 0;run c 2 0;let a 0;draw a 0:1,1:1", "draw a 0:1,1:1;draw b 0:1,1:1", "draw a 0:1,1:3");
        x.sheet(0, 0, 2);
        x.cell(0, 0, 50);
        x.cell(0, 1, 50);
        due("by two", x.tells(0, 0, 0, 1), 17);
        due("by two, asked by one that isn't", x.tells(0, 5, 0, 1), 17);
        x.sheet(1, 0, 0);
        due("nothing told: all but WIDE and VOID", x.tells(1, 5, 0, 1), 32 + 16 + 4 + 1);
        x.sheet(1, 0, 10);
        due("no one", x.tells(1, 5, 0, 1), 0);
        says("NAMES (bits) [..] by which all would be so");
        due("a alone", x.tells(0, 0, 0, 2), 1);
        due("a and b", x.tells(0, 4, 5, 2), 3);
        due("none", x.tells(0, 5, 0, 2), 0);
        x.sheet(1, 1, 0);
        due("nothing told: all", x.tells(1, 5, 0, 2), 63);
        x.sheet(1, 1, 1);
        x.cell(1, 0, 100);
        due("all but a", x.tells(1, 0, 0, 2), 62);
        says("STARTS of a (bits 0 .. 9: were that a's VALUE in THE START) by which all would be so");
        ChanceSteps y = with("let b a", "if a<9{see 1}{let c 1}", "let c f");
        y.let(0, 7);
        y.let(5, 3);
        for (int v = 0; v < 10; v++) {
            y.sheet(0, 0, 10);
            y.cell(0, v, 100);
            due("START " + v, y.tells(0, 0, 1, 3), 1 << v);
            due("START " + v + " of a itself", y.tells(0, 1, 0, 3), 1 << v);
            due("of no START", y.tells(0, 0, 2, 3), v == 0 ? 1023 : 0);
            due("all others stay", y.tells(0, 2, 2, 3), v == 3 ? 1023 : 0);
        }
        y.sheet(0, 0, 2);
        y.cell(0, 1, 100);
        due("START 9", y.tells(0, 1, 2, 3), 512);
        y.cell(0, 0, 100);
        y.cell(0, 1, 0);
        due("STARTS 0 .. 8", y.tells(0, 1, 2, 3), 511);
        due("THE START is as it was", y.count(2), 700003);
        due("what comes of it is as it was", y.likeliest(0, 1), 7);
        due("and by a SEED", y.comes(0, 0), 770003);
    }

    private static void image() {
        ChanceSteps x = new ChanceSteps();
        says("AN IMAGE keeps THE START, how many PROGRAMS there are. back: All that it keeps is as in THE IMAGE: how many PROGRAMS. STATE: there is none.");
        due("none", x.back(), STATE);
        due("image of nothing", x.image(), 0);
        due("back", x.back(), 0);
        for (int p = 0; p < 6; p++) {
            due("a PROGRAM", read(x, "let a " + p), p);
            x.let(1, p);
            due("image of " + (p + 1), x.image(), p + 1);
        }
        x.let(1, 9);
        due("back to 6", x.back(), 6);
        due("THE START", x.count(2), 50000);
        due("PROGRAMS", x.count(0), 6);
        due("again", x.back(), 6);
        ChanceSteps y = with("let a 1", "let a 2");
        y.let(3, 4);
        due("image", y.image(), 2);
        for (int p = 2; p < 6; p++) due("a PROGRAM", read(y, "let a 3"), p);
        y.let(3, 5);
        write(y, "let");
        y.sheet(2, 0, 1);
        due("back", y.back(), 2);
        due("PROGRAMS", y.count(0), 2);
        due("THE START", y.count(2), 400);
        due("THE TAPE isn't kept", y.count(1), 3);
        due("SHEETS aren't kept", y.cell(2, 0, 1), 1);
        due("the third is gone", y.told(2, 0), BAD);
        write(y, " b 8;let a 9");
        due("another third", y.program(), 2);
        due("its VALUE", y.likeliest(2, 0), 9);
        due("the image stays: back again", y.back(), 2);
        due("image: the newer one", read(y, "let a 4"), 2);
        due("image", y.image(), 3);
        due("back to the newer one", y.back(), 3);
        due("its VALUE", y.likeliest(2, 0), 4);
        due("refused calls keep no image", new ChanceSteps().back(), STATE);
    }

    private static void sheets() {
        says("SHEETS 0 .. 3 are rows of numbers, or missing (as all are at first): of sort 0 bytes, 1 ints.");
        ChanceSteps x = new ChanceSteps();
        for (int s = 0; s < 4; s++) {
            due("missing at first", x.cell(s, 0, 0), -11);
            due("missing at first", x.copy(s, 0, s, 0, 0), -11);
            due("bytes", x.sheet(s, 0, 1), 1);
            due("ints", x.sheet(s, 1, 1), 1);
            due("there", x.cell(s, 0, 0), 1);
            due("missing", x.sheet(s, -1, 0), 1);
            due("missing", x.cell(s, 0, 0), -11);
        }
        for (int s : new int[] {MIN, -1, 4, 5, MAX}) {
            due("no such SHEET", x.sheet(s, 0, 1), BAD);
            due("no such SHEET", x.sheet(s, -1, 1), BAD);
            due("no such SHEET", x.cell(s, 0, 0), BAD);
            due("no such SHEET", x.copy(s, 0, 0, 0, 0), BAD);
            due("no such SHEET", x.copy(0, 0, s, 0, 0), BAD);
        }
    }

    // ---- the promises

    private static void feed() {
        says("feed: n bytes (1 .. 5), a, b, .. (all 0 .. 255, also those that are not asked), come behind THE TAPE: how many it has. BAD; FULL: they have no room.");
        ChanceSteps x = new ChanceSteps();
        int size = 0;
        for (int n = 1; n <= 5; n++) {
            size += n;
            due("feed of " + n, x.feed(n, 255, 0, 255, 0, 255), size);
        }
        for (int n : new int[] {MIN, -1, 0, 6, 7, MAX}) due("feed of " + n, x.feed(n, 1, 1, 1, 1, 1), BAD);
        for (int b : new int[] {MIN, -1, 256, MAX}) {
            for (int n = 1; n <= 5; n++) {
                due("a", x.feed(n, b, 0, 0, 0, 0), BAD);
                due("b", x.feed(n, 0, b, 0, 0, 0), BAD);
                due("c", x.feed(n, 0, 0, b, 0, 0), BAD);
                due("d", x.feed(n, 0, 0, 0, b, 0), BAD);
                due("e", x.feed(n, 0, 0, 0, 0, b), BAD);
            }
        }
        due("THE TAPE", x.count(1), 15);
        for (int n = 1; n <= 5; n++) {
            ChanceSteps y = new ChanceSteps();
            write(y, blankTo("", 120 - n, ""));
            for (int more = n + 1; more <= 5; more++) due("no room for " + more, y.feed(more, 32, 32, 32, 32, 32), FULL);
            due("room for " + n, y.feed(n, 32, 32, 32, 32, 32), 120);
            for (int more = 1; more <= 5; more++) due("no room", y.feed(more, 32, 32, 32, 32, 32), FULL);
            due("full", y.count(1), 120);
            due("read", y.program(), -220);
            due("empty again", y.feed(1, 32, 0, 0, 0, 0), 1);
        }
        // each of the five comes, in order
        ChanceSteps z = new ChanceSteps();
        due("feed", z.feed(5, 'l', 'e', 't', ' ', 'b'), 5);
        due("feed", z.feed(2, '6', ';', '#', '#', '#'), 7);
        due("feed", z.feed(4, 'l', 'e', 't', 'c', '#'), 11);
        due("the letters", z.program(), -107);
        due("feed", z.feed(3, 's', 'e', 'e', '#', '#'), 3);
        due("feed", z.feed(1, '1', '#', '#', '#', '#'), 4);
        due("the letters", z.program(), 0);
    }

    private static void program() {
        says("program: THE TAPE, which is empty then (by a FAULT, too), is a PROGRAM: its number; -100 less the place of its FAULT.");
        ChanceSteps x = new ChanceSteps();
        due("an empty TAPE", x.program(), -100);
        due("THE TAPE", x.count(1), 0);
        due("a PROGRAM", read(x, "see 1"), 0);
        due("THE TAPE", x.count(1), 0);
        due("a FAULT", read(x, "see 1#"), -105);
        due("THE TAPE", x.count(1), 0);
        due("at the last place", read(x, blankTo("see 1", 120, "#")), -219);
        due("behind the last place", read(x, blankTo("see 1", 120, ";")), -220);
        due("the next one", read(x, "see 1"), 1);
        says("program: FULL: 6 (THE TAPE stays), more than 50 BITS, 60 TURNS (THE TAPE is empty).");
        due("54 BITS", read(x, "loop 9{draw a 0:8,1:8;draw b 1:4}"), FULL);
        due("THE TAPE", x.count(1), 0);
        due("61 TURNS", read(x, "loop 9{loop 5{see 1}};loop 4{see 1};see 1"), FULL);
        due("THE TAPE", x.count(1), 0);
        for (int p = 2; p < 6; p++) due("a PROGRAM", read(x, "see 1"), p);
        for (String text : new String[] {"", "see 1", "loop 9{draw a 0:8,1:8;draw b 1:4}"}) {
            ChanceSteps y = with("see 1", "see 1", "see 1", "see 1", "see 1", "see 1");
            due("6 there are", read(y, text), FULL);
            due("THE TAPE", y.count(1), text.length());
            due("6 there are", y.program(), FULL);
            due("THE TAPE", y.count(1), text.length());
            due("PROGRAMS", y.count(0), 6);
        }
    }

    private static void let() {
        says("let: VALUE of a NAME (0 .. 5) in THE START becomes v: what it was. BAD.");
        ChanceSteps x = new ChanceSteps();
        int unit = 100000;
        for (int name = 0; name < 6; name++) {
            due("let", x.let(name, 9), 0);
            due("THE START", x.count(2), 9 * unit);
            due("let", x.let(name, 9), 9);
            due("let", x.let(name, 0), 9);
            due("let", x.let(name, 0), 0);
            due("THE START", x.count(2), 0);
            unit /= 10;
        }
    }

    private static void toldOf() {
        says("told: how many STEPS (what 0), BITS (1), whether it SEES (2), NAMES in it (3), whether it is WIDE (4), how many STATES at its end (5; WIDE), TURNS (6). BAD.");
        ChanceSteps x = with("let f 1", "run e 0 d;if c{draw b 1:2}{draw b 3:2}", "loop 0{see 1}", EIGHT,
            "run a 3 0;run b 3 0;run c 3 0", "run a 4 0");
        int[][] want = {{1, 0, 0, 32, 0, 1, 1}, {4, 1, 0, 30, 0, 1, 5}, {2, 0, 1, 0, 0, 1, 1}, {1, 3, 0, 1, 0, 8, 1},
            {3, 9, 0, 7, 1, WIDE, 6}, {1, 9, 0, 1, 1, WIDE, 7}};
        for (int p = 0; p < 6; p++) {
            for (int what = 0; what < 7; what++) due("told(" + p + ", " + what + ")", x.told(p, what), want[p][what]);
            for (int what : new int[] {MIN, -1, 7, MAX}) due("told(" + p + ", " + what + ")", x.told(p, what), BAD);
        }
        due("STATES of VOID", with("see 0").told(0, 5), 0);
        due("VOID isn't WIDE", with("see 0").told(0, 4), 0);
        // nothing of a PROGRAM stays for one that is read into its place
        ChanceSteps y = new ChanceSteps();
        y.image();
        String[] texts = {"see f", "let a b", "run a 0 f;see e", "loop 9{see f}", "if f{see e}{see d}", "draw a 0:1,1:15", "let b 7", "draw f 1:2"};
        int[] sees = {1, 0, NONE, 1, 1, 0, 0, 0};
        int[] names = {32, 3, NONE, 32, 56, 1, 2, 32};
        int[] bits = {0, 0, NONE, 0, 0, 4, 0, 1};
        for (int first = 0; first < texts.length; first++) {
            for (int next = 0; next < texts.length; next++) {
                y.back();
                read(y, texts[first]);
                y.told(0, 5);
                y.back();
                due("program() of " + texts[next], read(y, texts[next]), next == 2 ? -106 : 0);
                due("SEES", y.told(0, 2), next == 2 ? BAD : sees[next]);
                due("NAMES", y.told(0, 3), next == 2 ? BAD : names[next]);
                due("BITS", y.told(0, 1), next == 2 ? BAD : bits[next]);
                due("what comes of it", y.likeliest(0, 1), next == 2 ? BAD : next == 6 ? 7 : sees[next] == 1 ? VOID : 0);
            }
        }
    }

    private static void stepOf() {
        says("step: KIND, its NAME (1; NONE), how many STEPS are in it, with itself (2), BITS (3), NAMES in its E (4; bits; 0), LOTS, times, PROGRAM (5; NONE). BAD; -12.");
        ChanceSteps x = with("see 1", EIGHT + ";let f a+f;see 1;if f{see c}{see 1;see 1};loop 9{see 1};loop 0{see 1};run e 0 b");
        int[][] want = {{0, 0, 1, 3, 0, 8}, {1, 5, 1, 0, 33, NONE}, {2, NONE, 1, 0, 0, NONE}, {3, NONE, 4, 0, 32, NONE}, {2, NONE, 1, 0, 4, NONE},
            {2, NONE, 1, 0, 0, NONE}, {2, NONE, 1, 0, 0, NONE}, {4, NONE, 2, 0, 0, 9}, {2, NONE, 1, 0, 0, NONE}, {4, NONE, 2, 0, 0, 0},
            {2, NONE, 1, 0, 0, NONE}, {5, 4, 1, 0, 2, 0}};
        for (int i = 0; i < want.length; i++) {
            for (int what = 0; what < 6; what++) due("step(1, " + i + ", " + what + ")", x.step(1, i, what), want[i][what]);
            for (int what : new int[] {MIN, -1, 6, MAX}) due("step(1, " + i + ", " + what + ")", x.step(1, i, what), BAD);
        }
        due("behind the last", x.step(1, 12, 0), -12);
        due("ahead of the first", x.step(1, -1, 0), -12);
    }

    private static void taken() {
        says("taken: A STEP taken for one that gives a NAME a VALUE (group 0), one with a BLOCK (1), one with an E (2: LET, SEE, IF, RUN): its KIND. BAD; -12; -13.");
        ChanceSteps x = with("see 1", "draw a 0:2;let a 1;see 1;if 1{see 1}{see 1};loop 1{see 1};run a 0 1");
        int[] places = {0, 1, 2, 3, 6, 8};
        String[] groups = {"015", "34", "1235"};
        for (int kind = 0; kind < 6; kind++) {
            for (int group = 0; group < 3; group++) {
                due("taken", x.taken(1, places[kind], group), groups[group].indexOf('0' + kind) >= 0 ? kind : -13);
            }
            for (int group : new int[] {MIN, -1, 3, MAX}) due("taken, group " + group, x.taken(1, places[kind], group), BAD);
        }
        due("behind the last", x.taken(1, 9, 0), -12);
        due("ahead of the first", x.taken(1, -1, 0), -12);
    }

    private static void oddsCalls() {
        says("left: LEFT, by 2 to the 50th. NO: PROGRAM, part, WIDE.");
        ChanceSteps x = with("see 0", EIGHT, "run a 1 0;run b 1 0;run c 1 0;let c 0", "draw a 0:3,1:1;see a=0");
        left(x, 0, 0, 1);
        left(x, 1, 1, 1);
        left(x, 2, NO, NO);
        left(x, 3, 3, 4);
        left(x, 4, NO, NO);
        says("odds, state, fold: NO: [..], WIDE, VOID.");
        for (int p : new int[] {0, 2}) {
            for (int part = 0; part < 2; part++) {
                due("odds", x.odds(p, 0, 0, part), NO);
                due("state", x.state(p, 0, part), NO);
                due("fold", x.fold(p, 0, 0, part), NO);
            }
        }
        says("likeliest: The likeliest VALUE of a NAME (0 .. 5), the likeliest STATE (name 6); of like ones the least. BAD; WIDE; VOID.");
        ChanceSteps y = with("draw a 9:1,0:1", "draw f 5:2,9:1,7:1", "draw a 2:1,1:1;draw f 9:1,8:1", "draw a 9:2,8:1,3:1;draw b 1:1,2:1", "draw a 4:1,4:1,3:1,9:1");
        int[][] want = {{0, 0, 0}, {0, 5, 5}, {1, 8, 100008}, {9, 0, 910000}, {4, 0, 400000}};
        for (int p = 0; p < 5; p++) {
            due("likeliest a", y.likeliest(p, 0), want[p][0]);
            due("likeliest f", y.likeliest(p, 5), want[p][1]);
            due("likeliest STATE", y.likeliest(p, 6), want[p][2]);
        }
        for (int name = 0; name < 7; name++) {
            due("WIDE", x.likeliest(2, name), WIDE);
            due("VOID", x.likeliest(0, name), VOID);
        }
    }

    private static void otherOdds() {
        says("apart, peak: BAD; WIDE; [VOID]");
        ChanceSteps x = with("see 0", EIGHT, "run a 1 0;run b 1 0;run c 1 0;let c 0", "see 1");
        due("WIDE", x.apart(2, 0, 0), WIDE);
        due("VOID", x.apart(0, 0, 0), VOID);
        due("peak of VOID", x.peak(0, NONE), 1);
        due("peak of WIDE", x.peak(2, NONE), WIDE);
        due("needed of VOID", x.needed(0, 5), 5);
        due("needed of WIDE", x.needed(2, 15), 8);
        due("comes of WIDE", x.comes(2, 0) >= 0 ? 1 : 0, 1);
        due("often of WIDE", x.often(2, 0, 1, 2, 0, 0), 1);
        says("alike: Whether P of each VALUE of each NAME is the same by two PROGRAMS (1, 0). BAD; WIDE: one is; VOID: one is.");
        due("WIDE, the first", x.alike(2, 3), WIDE);
        due("WIDE, the other", x.alike(3, 2), WIDE);
        due("VOID, the first", x.alike(0, 3), VOID);
        due("VOID, the other", x.alike(3, 0), VOID);
        due("VOID, both", x.alike(0, 0), VOID);
        due("WIDE, both", x.alike(2, 2), WIDE);
        due("alike", x.alike(3, 3), 1);
        String base = "let a 1;let b 2;let c 3;let d 4;let e 5;let f 6";
        for (int name = 0; name < 6; name++) {
            char n = (char) ('a' + name);
            ChanceSteps y = with(base, base + ";draw " + n + " " + (name + 1) + ":15,9:1", base + ";draw " + n + " " + (name + 1) + ":1,9:1;see " + n + "<9",
                base + ";let " + n + " 0");
            due("by " + n, y.alike(0, 1), 0);
            due("by what is left of " + n, y.alike(0, 2), 1);
            due("by " + n, y.alike(3, 0), 0);
        }
        ChanceSteps z = with("draw a 0:1,1:3", "draw a 0:3,1:1", "draw a 0:1,1:1;draw b 0:1,1:1;see a+b<2;let b 0", "draw a 0:1,1:1,2:2;see a<2;draw a 0:2,1:2");
        due("not as likely", z.alike(0, 1), 0);
        due("2 of 3", z.alike(2, 3), 0);
        due("itself", z.alike(2, 2), 1);
    }

    private static void toldCalls() {
        says("film: A SHEET truly becomes hundredths of P of VALUES 0 .. 9 of a NAME (bytes): 10. BAD; WIDE; VOID.");
        ChanceSteps x = with("let b 9;draw a 0:1,1:7", "see 0", EIGHT, "run a 2 0;run b 2 0;run c 2 0");
        for (int s = 0; s < 4; s++) {
            due("WIDE", x.film(s, 3, 0), WIDE);
            due("VOID", x.film(s, 1, 0), VOID);
            due("still missing", x.cell(s, 0, 0), -11);
            x.sheet(s, s % 2, s == 0 ? 0 : s == 1 ? 10 : s == 2 ? 11 : 40);
            due("film", x.film(s, 0, 0), 10);
            due("as told", x.tells(s, 0, 0, 0), NONE);
            due("not of b", x.tells(s, 0, 1, 0), 0);
            due("10", x.copy(s, 9, s, 9, 1), 1);
            due("no more than 10", x.copy(s, 9, s, 9, 2), -12);
            due("bytes", x.cell(s, 0, 256 + 12), 1);
            due("bytes", x.tells(s, 0, 0, 0), NONE);
            due("of b", x.film(s, 0, 1), 10);
            due("its last is 100", x.tells(s, 0, 1, 0), NONE);
            due("WIDE", x.film(s, 3, 0), WIDE);
            due("VOID", x.film(s, 1, 0), VOID);
            due("as it was", x.tells(s, 0, 1, 0), NONE);
        }
        for (int s : new int[] {MIN, -1, 4, MAX}) due("no such SHEET", x.film(s, 0, 0), BAD);
        says("count: How many: 0 PROGRAMS, 1 bytes of THE TAPE; THE START (2). BAD.");
        for (int what : new int[] {MIN, -1, 3, MAX}) due("count", x.count(what), BAD);
        x.let(5, 1);
        x.feed(3, 0, 0, 0, 0, 0);
        due("PROGRAMS", x.count(0), 4);
        due("THE TAPE", x.count(1), 3);
        due("THE START", x.count(2), 1);
    }

    private static void host() {
        says("sheet: A SHEET becomes a row of n of a sort, all 0, or missing (sort -1: n does not matter): 1. BAD: no such SHEET, sort; n above 40; -14.");
        ChanceSteps x = with("draw a 0:15,1:1");
        for (int sort = 0; sort < 2; sort++) {
            for (int n : new int[] {0, 1, 39, 40}) {
                due("sheet of " + n, x.sheet(0, sort, n), 1);
                due("behind its last", x.cell(0, n, 1), -12);
                due("its last", x.cell(0, n - 1, 1), n == 0 ? -12 : 1);
                due("all of it", x.copy(0, 0, 0, 0, n), n);
                due("more than all of it", x.copy(0, 0, 0, 0, n + 1), -12);
            }
            for (int n : new int[] {41, 42, MAX}) due("n " + n, x.sheet(0, sort, n), BAD);
            for (int n : new int[] {-1, -2, MIN}) due("n " + n, x.sheet(0, sort, n), -14);
            due("as it was", x.cell(0, 39, 1), 1);
        }
        for (int sort : new int[] {MIN, -2, 2, MAX}) due("sort " + sort, x.sheet(0, sort, 1), BAD);
        for (int n : new int[] {MIN, -1, 0, 41, MAX}) {
            due("missing, n " + n, x.sheet(0, -1, n), 1);
            due("missing", x.cell(0, 0, 0), -11);
        }
        for (int v = 0; v < 10; v++) {
            x.sheet(1, 1, 10);
            for (int i = 0; i < 10; i++) x.cell(1, i, 7);
            x.sheet(1, 0, 10);
            x.cell(1, 0, 93);
            x.cell(1, 1, 6);
            due("all others 0", x.tells(1, 0, 0, 0), NONE);
        }
        says("cell: Item i of a SHEET becomes v (of bytes its lowest 8 bits): 1. BAD: no such SHEET; -11; -12.");
        for (int v : new int[] {93, 93 + 256, 93 - 256, 93 + 0x7fffff00, 93 - (1 << 31)}) {
            x.sheet(1, 0, 1);
            due("a byte", x.cell(1, 0, v), 1);
            due("its lowest 8 bits", x.tells(1, 0, 0, 0), NONE);
            x.sheet(1, 1, 1);
            due("an int", x.cell(1, 0, v), 1);
            due("the whole int", x.tells(1, 0, 0, 0), v == 93 ? NONE : 0);
        }
        for (int i : new int[] {MIN, -1, 1, 2, 39, 40, MAX}) due("a place outside", x.cell(1, i, 0), -12);
        copies();
    }

    private static void copies() {
        says("copy: n numbers of a SHEET, from item i on, come to another one's item j on (as they were): n. BAD: no such SHEET; -11; -13; -12 (also with n below 0).");
        ChanceSteps x = with("draw a 0:1,1:1,2:2,3:4,4:8", "draw a 0:8,1:1,2:1,3:2,4:4", "draw a 0:1,1:2,2:4,3:8,4:1");
        // 6 6 12 25 50
        x.film(0, 0, 0);
        x.sheet(1, 0, 6);
        due("copy", x.copy(0, 0, 1, 1, 5), 5);
        due("item 0 stays", x.tells(1, 1, 0, 0), 0);
        x.cell(1, 0, 50);
        x.sheet(2, 0, 5);
        due("copy back", x.copy(1, 1, 2, 0, 5), 5);
        due("as they were", x.tells(2, 0, 0, 0), NONE);
        // onto itself, on and back: each as it was
        due("onto itself, on", x.copy(2, 0, 2, 1, 4), 4);
        x.cell(2, 0, 50);
        due("each as it was", x.tells(2, 1, 0, 0), NONE);
        due("onto itself, back", x.copy(2, 1, 2, 0, 4), 4);
        x.cell(2, 4, 50);
        due("each as it was", x.tells(2, 0, 0, 0), NONE);
        due("the first of all", x.copy(0, 0, 2, 0, 1), 1);
        due("the last of all", x.copy(0, 9, 1, 5, 1), 1);
        x.sheet(3, 1, 40);
        due("unlike sorts", x.copy(0, 0, 3, 0, 1), -13);
        due("unlike sorts", x.copy(3, 0, 0, 0, 1), -13);
        due("ints", x.copy(3, 0, 3, 20, 20), 20);
        for (int n : new int[] {MIN, -40, -2, -1}) {
            due("n below 0", x.copy(0, 0, 1, 0, n), -12);
            due("n below 0 in the middle", x.copy(0, 5, 1, 3, n), -12);
            due("n below 0 at the end", x.copy(0, 10, 1, 6, n), -12);
        }
        for (int n : new int[] {6 + 1, 10, 11, 40, MAX}) due("the other has no room", x.copy(0, 0, 1, 0, n), -12);
        for (int n : new int[] {11, 40, MAX}) due("the first has none", x.copy(0, 0, 0, 0, n), -12);
        for (int i : new int[] {MIN, -1, 10, MAX}) {
            due("i outside", x.copy(0, i, 1, 0, 1), -12);
            due("i outside, very many", x.copy(0, i, 1, 0, MAX), -12);
        }
        for (int j : new int[] {MIN, -1, 6, MAX}) {
            due("j outside", x.copy(0, 0, 1, j, 1), -12);
            due("j outside, very many", x.copy(0, 0, 1, j, MAX), -12);
        }
    }

    // ---- the five places where the words leave room

    private static void fiveReadings() {
        says("program, with 6: FULL: 6 (THE TAPE stays)");
        ChanceSteps x = with("see 1", "see 1", "see 1", "see 1", "see 1");
        x.image();
        due("a 6th", read(x, "see 1"), 5);
        // a FAULT is no refusal: it is an answer to a text that is read, and this one isn't read
        due("6 there are: a FAULT isn't looked for", read(x, "see #"), FULL);
        due("THE TAPE stays", x.count(1), 5);
        due("nor again", x.program(), FULL);
        x.back();
        due("5 there are: the same TAPE is read", x.program(), -104);
        due("THE TAPE is empty", x.count(1), 0);

        says("peak: WIDE (as of all that isn't FORGOTTEN)");
        x = with(EIGHT, "run a 0 0;run b 0 0;run c 0 0", BULGE, "run a 2 0;draw b 0:1,1:1", "let c 2;run a 2 c;let d a", BULGE + ";see 1");
        for (int names = 0; names < 8; names++) {
            due("WIDE as of what isn't FORGOTTEN", x.peak(1, names), names == 7 ? WIDE : names == 0 ? 1 : Integer.bitCount(names) == 1 ? 8 : 64);
        }
        due("nothing FORGOTTEN", x.peak(1, NONE), WIDE);
        due("all are drawn in vain", x.peak(2, 63), 1);
        due("none is NEEDED", x.peak(2, 0), 1);
        due("a, b and c are 0 at the end: none is NEEDED behind what was drawn", x.peak(2, 7), 1);
        due("left out, though WIDE", x.peak(3, 2), 2);
        due("what it RUNS is gone through whole, nothing FORGOTTEN in it", x.peak(3, 1), WIDE);
        due("what it RUNS is gone through whole, if its NAME is NEEDED for another", x.peak(4, 8), WIDE);
        due("left out, if it isn't", x.peak(4, 4), 1);
        says("PEAK: [..] (as of WIDE, but not of what it RUNS)");
        x = with(EIGHT, "run a 0 0;run b 0 0;let a a=b", "run c 1 0", "run c 1 0;run d 0 0");
        due("64 in it", x.peak(1, NONE), 64);
        due("64 in what it RUNS", x.peak(2, NONE), 2);
        due("64 in what it RUNS, c asked for", x.peak(2, 4), 2);
        due("16 behind both", x.peak(3, NONE), 16);
        due("8 by d", x.peak(3, 8), 8);

        says("STARTS of a (bits 0 .. 9: were that a's VALUE in THE START) by which all would be so");
        x = with(EIGHT, BULGE, "if a=2{run b 1 0}{if a=5{see 0}{let b a<4}}");
        x.sheet(0, 0, 0);
        due("nothing told: all but WIDE and VOID", x.tells(0, 2, 1, 3), 1023 - 4 - 32);
        x.sheet(0, 0, 2);
        x.cell(0, 1, 100);
        due("b is 1", x.tells(0, 2, 1, 3), 11);
        x.cell(0, 0, 100);
        x.cell(0, 1, 0);
        due("b is 0", x.tells(0, 2, 1, 3), 1023 - 11 - 4 - 32);
        x.cell(0, 0, 0);
        due("all 0: VOID would be so, had it a P", x.tells(0, 2, 1, 3), 0);
        x.let(0, 2);
        due("asked of one that is WIDE", x.tells(0, 2, 1, 3), WIDE);
        x.let(0, 5);
        due("asked of one that is VOID", x.tells(0, 2, 1, 3), VOID);

        says("-12 a place outside; -12 (also with n below 0)");
        x = new ChanceSteps();
        x.sheet(0, 0, 4);
        x.sheet(1, 0, 0);
        for (int i = -2; i < 8; i++) {
            for (int n = -2; n < 8; n++) {
                boolean room = n >= 0 && i >= 0 && i + n <= 4;
                due("from item " + i + " on " + n, x.copy(0, i, 0, 0, n), room ? n : -12);
                due("to item " + i + " on " + n, x.copy(0, 0, 0, i, n), room ? n : -12);
                due("to none, item " + i + " on " + n, x.copy(0, 0, 1, i, n), n == 0 && i == 0 ? 0 : -12);
            }
        }

        says("a {, a ( , a - ahead of a ONE while 4 of these are open");
        stands("loop 1{see (-(1))}");
        fault("loop 1{see (-(-1))}", 14);
        fault("loop 1{see (-((1)))}", 14);
        stands("loop 1{loop 1{see -(1)}}");
        fault("loop 1{loop 1{see -(-1)}}", 20);
        fault("loop 1{loop 1{loop 1{if -(1){see 1}{see 1}}}}", 25);
        stands("loop 1{loop 1{loop 1{if -1{see 1}{see 1}}}}");
    }
}
