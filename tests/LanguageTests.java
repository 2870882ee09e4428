import java.io.IOException;
import java.lang.reflect.Constructor;
import java.lang.reflect.Field;
import java.lang.reflect.Method;
import java.lang.reflect.Modifier;
import java.nio.charset.StandardCharsets;
import java.nio.file.Files;
import java.nio.file.Path;
import java.util.ArrayList;
import java.util.List;
import java.util.Set;
import java.util.TreeMap;
import java.util.TreeSet;
import java.util.regex.Matcher;
import java.util.regex.Pattern;

/** The rules of LANGUAGE.md that can be seen from the class and from its text. */
public final class LanguageTests {

    private static int wrong = 0;

    private static void hold(boolean so, String rule) {
        if (!so) {
            wrong++;
            System.out.println("broken: " + rule);
        }
    }

    public static void main(String[] args) throws IOException {
        String source = Files.readString(Path.of("src/main/java/ChanceSteps.java"), StandardCharsets.US_ASCII);
        String code = bare(source);
        face();
        words(code);
        members();
        methods(code);
        System.out.println(wrong == 0 ? "the rules that are looked at hold" : wrong + " rules are broken");
        if (wrong != 0) System.exit(1);
    }

    /** Without comments, and with nothing in texts and signs. */
    private static String bare(String source) {
        return source.replaceAll("(?s)/\\*.*?\\*/", "").replaceAll("//[^\n]*", "")
            .replaceAll("\"[^\"\n]*\"", "\"\"").replaceAll("'[^'\n]'", "'x'");
    }

    private static void face() {
        Set<String> want = new TreeSet<>(Set.of("feed/6/int", "program/0/int", "let/2/int", "told/2/int", "step/3/int",
            "taken/3/int", "left/2/long", "odds/4/long", "state/3/long"));
        want.addAll(Set.of("fold/4/long", "likeliest/2/int", "apart/3/int", "needed/2/int", "peak/2/int", "alike/2/int",
            "comes/2/int", "often/6/int", "tells/4/int", "film/3/int"));
        want.addAll(Set.of("image/0/int", "back/0/int", "count/1/int", "sheet/3/int", "cell/3/int", "copy/5/int"));
        Set<String> names = new TreeSet<>();
        Set<String> found = new TreeSet<>();
        for (Method m : ChanceSteps.class.getDeclaredMethods()) {
            if (Modifier.isPublic(m.getModifiers())) {
                found.add(m.getName() + "/" + m.getParameterCount() + "/" + m.getReturnType());
                names.add(m.getName());
                for (Class<?> p : m.getParameterTypes()) hold(p == int.class, m + " takes ints alone");
                hold(!Modifier.isStatic(m.getModifiers()), m + " is of an object");
            }
        }
        hold(found.equals(want), "rule 1: the face is the document's: " + found);
        for (Method m : ChanceSteps.class.getDeclaredMethods()) {
            boolean isPrivate = Modifier.isPrivate(m.getModifiers());
            hold(isPrivate || Modifier.isPublic(m.getModifiers()), "rule 1: " + m + " is public or private");
            hold(!isPrivate || !names.contains(m.getName()), "rule 1: " + m + " bears no public one's name");
        }
        Set<String> constants = new TreeSet<>();
        for (Field f : ChanceSteps.class.getDeclaredFields()) {
            if (Modifier.isPublic(f.getModifiers())) constants.add(f.getName() + " " + f.getType());
            else hold(Modifier.isPrivate(f.getModifiers()), "rule 1: " + f + " is private");
        }
        hold(constants.toString().equals("[BAD int, FULL int, NO long, NONE int, STATE int, VOID int, WIDE int]"),
            "rule 1: the constants are the document's: " + constants);
        Constructor<?>[] made = ChanceSteps.class.getDeclaredConstructors();
        hold(made.length == 1 && made[0].getParameterCount() == 0 && Modifier.isPublic(made[0].getModifiers()),
            "rule 1: one public constructor");
        hold(Modifier.isFinal(ChanceSteps.class.getModifiers()), "rule 1: final");
    }

    private static void words(String code) {
        String[] none = {"\\bimport\\b", "\\bpackage\\b", "->", "::", "\\bsynchronized\\b", "\\bassert\\b", "\\bfinally\\b",
            "\\btry\\b", "\\bcatch\\b", "\\bthrow\\b", "\\bthrows\\b", "\\bprotected\\b", "\\bvar\\b", "\\brecord\\b",
            "\\bSystem\\.(?!arraycopy)", "\\bRandom\\b", "\\bThread\\b", "\\bhashCode\\b", "\\btoString\\b", "\\bequals\\b",
            "\\bdouble\\b", "\\bfloat\\b", "\\byield\\b", "Exact\\(", "\\bstatic \\{", "@", "\\bvolatile\\b", "\\bnative\\b",
            "\"\" \\+", "\\+ \"\"", "\\binstanceof\\b", "while \\(true\\)", "for \\(;;\\)"};
        for (String n : none) {
            Matcher m = Pattern.compile(n).matcher(code);
            hold(!m.find(), "rules 4, 6, 10, 13: no " + n);
        }
        Matcher library = Pattern.compile("\\b(Math|Integer|Long|Arrays|System)\\.(\\w+)").matcher(code);
        while (library.find()) {
            hold(Set.of("Math.max", "Math.min", "Math.floorMod", "System.arraycopy").contains(library.group()),
                "rule 4: " + library.group());
        }
    }

    private static void members() {
        List<Class<?>> all = new ArrayList<>(List.of(ChanceSteps.class.getDeclaredClasses()));
        hold(all.size() + 1 <= 12, "rule 11: twelve classes");
        all.add(ChanceSteps.class);
        for (Class<?> c : all) {
            hold(c == ChanceSteps.class || Modifier.isStatic(c.getModifiers()) && !Modifier.isPublic(c.getModifiers()),
                "rule 1: " + c + " inside is static and not public");
            hold(c.getDeclaredClasses().length == 0 || c == ChanceSteps.class, "rule 1: none inside " + c);
            int fields = 0;
            for (Field f : c.getDeclaredFields()) {
                boolean isStatic = Modifier.isStatic(f.getModifiers());
                fields += isStatic ? 0 : 1;
                hold(!isStatic || Modifier.isFinal(f.getModifiers()), "rule 5: " + f + " is final");
            }
            hold(fields <= 20, "rule 11: twenty fields in " + c + ": " + fields);
            for (Method m : c.getDeclaredMethods()) {
                hold(m.getParameterCount() <= 7, "rule 11: seven parameters of " + m);
            }
        }
    }

    private static void methods(String code) {
        Matcher head = Pattern.compile("(?m)^( {4}| {8})(?:\\w[\\w\\[\\]]* )+(\\w+)\\([^;{}]*\\) \\{$").matcher(code);
        TreeMap<String, Integer> found = new TreeMap<>();
        while (head.find()) {
            int end = code.indexOf("\n" + head.group(1) + "}\n", head.end());
            int lines = code.substring(head.start(), end).split("\n").length + 1;
            found.merge(head.group(2), lines, Math::max);
            hold(lines <= 60, "rule 11: sixty lines: " + head.group(2) + " has " + lines);
        }
        hold(found.size() > 80, "the methods are found: " + found.size());
    }
}
