import java.util.Random;

/** No call throws, whatever it is given, in whatever state. */
public final class NeverThrowsTests {

    private static final int[] EDGES = {Integer.MIN_VALUE, Integer.MIN_VALUE + 1, -256, -2, -1, 0, 1, 2, 3, 5, 6, 9, 10, 11,
        39, 40, 41, 63, 64, 119, 120, 255, 256, 999999, 1000000, Integer.MAX_VALUE - 1, Integer.MAX_VALUE};
    private static final String[] WORDS = {"draw ", "let ", "see ", "if ", "loop ", "run ", "a", "b", "c", "d", "e", "f", "0:1,1:1",
        "0:8,1:8", "0", "1", "2", "9", "99", "100", ";", "{", "}", "}{", "(", ")", "+", "-", "*", "%", "<", "=", ",", ":", " ", "\n",
        "#", "draw a 0:1,1:1,2:1,3:1,4:1,5:1,6:1,7:1;", "let a a+b;", "run b 0 a;", "loop 9{see a}", "if a{see 1}{let b 0}"};

    public static void main(String[] args) {
        Random random = new Random(7);
        long calls = 0;
        for (int run = 0; run < 4000; run++) {
            ChanceSteps x = new ChanceSteps();
            for (int i = 0; i < 512; i++, calls++) {
                if (random.nextInt(25) == 0) write(x, random);
                else call(x, random);
            }
        }
        System.out.println(calls + " calls threw nothing");
    }

    private static void write(ChanceSteps x, Random random) {
        StringBuilder s = new StringBuilder();
        for (int n = 1 + random.nextInt(9); n > 0; n--) s.append(WORDS[random.nextInt(WORDS.length)]);
        for (int i = 0; i < s.length(); i++) x.feed(1, s.charAt(i), 0, 0, 0, 0);
        if (random.nextInt(4) > 0) x.program();
    }

    private static void call(ChanceSteps x, Random r) {
        int[] n = new int[6];
        for (int i = 0; i < 6; i++) n[i] = r.nextInt(3) == 0 ? EDGES[r.nextInt(EDGES.length)] : r.nextInt(6);
        switch (r.nextInt(25)) {
            case 0: x.feed(n[0], n[1], n[2], n[3], n[4], n[5]); return;
            case 1: x.program(); return;
            case 2: x.let(n[0], n[1]); return;
            case 3: x.told(n[0], n[1]); return;
            case 4: x.step(n[0], n[1], n[2]); return;
            case 5: x.taken(n[0], n[1], n[2]); return;
            case 6: x.left(n[0], n[1]); return;
            case 7: x.odds(n[0], n[1], n[2], n[3]); return;
            case 8: x.state(n[0], n[1], n[2]); return;
            case 9: x.fold(n[0], n[1], n[2], n[3]); return;
            case 10: x.likeliest(n[0], n[1]); return;
            case 11: x.apart(n[0], n[1], n[2]); return;
            case 12: x.needed(n[0], n[1]); return;
            case 13: x.peak(n[0], n[1]); return;
            case 14: x.alike(n[0], n[1]); return;
            case 15: x.comes(n[0], n[1]); return;
            case 16: x.often(n[0], n[1], n[2], n[3], n[4], n[5]); return;
            case 17: x.tells(n[0], n[1], n[2], n[3]); return;
            case 18: x.film(n[0], n[1], n[2]); return;
            case 19: x.image(); return;
            case 20: x.back(); return;
            case 21: x.count(n[0]); return;
            case 22: x.sheet(n[0], n[1], n[2]); return;
            case 23: x.cell(n[0], n[1], n[2]); return;
            default: x.copy(n[0], n[1], n[2], n[3], n[4]);
        }
    }
}
