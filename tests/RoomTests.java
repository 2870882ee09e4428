import java.lang.management.ManagementFactory;

/** All calls of one run live in one room: what they make stays far below it. */
public final class RoomTests {

    private static final String EIGHT = "0:1,1:1,2:1,3:1,4:1,5:1,6:1,7:1";
    private static int wrong = 0;

    private static long made() {
        return ((com.sun.management.ThreadMXBean) ManagementFactory.getThreadMXBean()).getCurrentThreadAllocatedBytes();
    }

    private static void below(String what, long bytes, long most) {
        System.out.println(what + " made " + bytes + " bytes");
        if (bytes > most) {
            wrong++;
            System.out.println("that is more than " + most);
        }
    }

    public static void main(String[] args) {
        made();
        run(new ChanceSteps());
        long before = made();
        ChanceSteps x = new ChanceSteps();
        below("an object", made() - before, 20_000);
        before = made();
        run(x);
        below("512 dear calls", made() - before, 400_000);
        before = made();
        for (int i = 0; i < 512; i++) new ChanceSteps();
        below("512 objects", made() - before, 10_000_000);
        if (wrong != 0) System.exit(1);
    }

    private static int calls;

    private static int read(ChanceSteps x, String text) {
        for (int i = 0; i < text.length(); i += 5) {
            int n = Math.min(5, text.length() - i);
            x.feed(n, at(text, i), at(text, i + 1), at(text, i + 2), at(text, i + 3), at(text, i + 4));
            calls++;
        }
        calls++;
        return x.program();
    }

    private static int at(String text, int i) { return i < text.length() ? text.charAt(i) : 0; }

    private static void run(ChanceSteps x) {
        calls = 0;
        int read = read(x, "draw a " + EIGHT);
        read += read(x, "run b 0 a;run c 0 b;loop 2{if a<b{if b<c{let a a+1}{let b b+1}}{if a=c{let c a*b}{let c c-1}}};let a a+b+c");
        read += read(x, "run a 1 a;run b 0 c;if a{run c 1 b}{run c 0 a};if a<b{if b<c{if a{let d 1}{see d}}{see 1}}{see 1}");
        read += read(x, "loop 3{run a 0 1;if b{let b a}{if c{let c a}{run b 0 1}}};let a a+b");
        read += read(x, "run a 3 3;run b 0 0;let c a%b");
        read += read(x, "run d 4 a;if a{loop 2{run b 0 b}}{run c 0 c}");
        if (read != 15) {
            wrong++;
            System.out.println("the texts were no PROGRAMS: " + read);
        }
        x.image();
        x.film(0, 2, 2);
        for (int i = 0; calls < 500; i++) {
            x.let(0, i % 10);
            x.peak(i % 6, i % 64);
            x.tells(0, i % 6, i % 6, i % 4);
            x.apart(i % 6, i % 5, 5 - i % 6);
            x.alike(i % 6, (i + 1) % 6);
            x.often(i % 6, i, 20, i % 6, i % 10, 0);
            if (i % 7 == 0) x.back();
            calls += 7;
        }
    }
}
