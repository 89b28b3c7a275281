import java.lang.reflect.Constructor;
import java.lang.reflect.Field;
import java.lang.reflect.Method;
import java.lang.reflect.Modifier;
import java.nio.file.Files;
import java.nio.file.Path;
import java.util.ArrayList;
import java.util.Arrays;
import java.util.List;
import java.util.Set;
import java.util.TreeSet;
import java.util.regex.Matcher;
import java.util.regex.Pattern;

/** The public face by reflection, and the rules of LANGUAGE.md that can be seen in the program's text. */
public final class RulesTest {
    private static final String FACE =
        "paper(int,int) ofPaper(int,int) change(int,int,int) fold(int,int) release(int) wind(int) become(int,int) "
        + "as(int,int) feed(long,int) text(int) law(int,int,int,int) days(int) loose(int) shape(int,int) "
        + "least(int,int) shapes(int,int,int) way(int,int) open(int,int) alike(int) then(int,int,int) first(int) "
        + "best(int,int,int) fits(int,int) owed(int) debtor(int) odds(int,int) seed(int) voice(int,int,int) "
        + "trace(int) sheet(int,int,int) put(int,int,int) move(int,int,int,int,int) debts(int) judge(int) image() "
        + "restore() tell(int) check() count(int) told(int)";
    private static int wrong = 0;

    private static void due(String what, Object got, Object want) {
        if (!got.equals(want)) {
            wrong++;
            System.out.println(what + ": " + got + ", due is " + want);
        }
    }

    public static void main(String[] args) throws Exception {
        face();
        classesInside();
        words();
        lengths();
        room();
        System.out.println(wrong == 0 ? "all rules are kept" : wrong + " rules are not kept");
        if (wrong != 0) System.exit(1);
    }

    private static void face() {
        Class<?> c = CraneFolds.class;
        due("modifiers", c.getModifiers(), Modifier.PUBLIC | Modifier.FINAL);
        Set<String> names = new TreeSet<>();
        Set<String> seen = new TreeSet<>();
        for (Method m : c.getDeclaredMethods()) {
            if (Modifier.isPrivate(m.getModifiers())) continue;
            List<String> types = new ArrayList<>();
            for (Class<?> t : m.getParameterTypes()) types.add(t.getName());
            seen.add(m.getName() + "(" + String.join(",", types) + ")");
            names.add(m.getName());
            due(m.getName() + " is public alone", m.getModifiers(), Modifier.PUBLIC);
            due(m.getName() + " answers", m.getReturnType().getName(), "int");
        }
        due("the face", seen, new TreeSet<>(Arrays.asList(FACE.split(" "))));
        Constructor<?>[] made = c.getDeclaredConstructors();
        due("constructors", made.length, 1);
        due("its parameters", made[0].getParameterCount(), 0);
        due("it is public", made[0].getModifiers(), Modifier.PUBLIC);
        for (Field f : c.getDeclaredFields()) due(f.getName() + " is private", Modifier.isPrivate(f.getModifiers()), true);
        for (Class<?> inside : c.getDeclaredClasses())
            for (Method m : inside.getDeclaredMethods())
                due(inside.getName() + "." + m.getName() + " bears a public name", names.contains(m.getName()), false);
        for (Method m : c.getDeclaredMethods())
            if (Modifier.isPrivate(m.getModifiers())) due(m.getName() + " bears a public name", names.contains(m.getName()), false);
    }

    private static void classesInside() {
        Class<?>[] inside = CraneFolds.class.getDeclaredClasses();
        due("at most twelve classes", inside.length + 1 <= 12, true);
        List<Class<?>> all = new ArrayList<>(Arrays.asList(inside));
        all.add(CraneFolds.class);
        for (Class<?> c : all) {
            due(c + " is static", c == CraneFolds.class || Modifier.isStatic(c.getModifiers()), true);
            int fields = 0;
            for (Field f : c.getDeclaredFields()) {
                boolean constant = Modifier.isStatic(f.getModifiers());
                if (constant) due(c + "." + f.getName() + " is final", Modifier.isFinal(f.getModifiers()), true);
                else fields++;
            }
            due(c + " has at most twenty fields", fields <= 20, true);
            for (Method m : c.getDeclaredMethods()) due(m + " takes at most seven", m.getParameterCount() <= 7, true);
        }
    }

    private static String program() throws Exception {
        return Files.readString(Path.of("src/main/java/CraneFolds.java"));
    }

    private static void words() throws Exception {
        String code = program();
        due("signs 1 to 127", code.chars().allMatch(c -> c > 0 && c < 128), true);
        String bare = code.replaceAll("(?s)/\\*.*?\\*/", " ").replaceAll("//[^\n]*", " ");
        String[] never = {"\\bthrows?\\b", "\\btry\\b", "\\bcatch\\b", "\\bfinally\\b", "\\bsynchronized\\b", "\\bassert\\b",
            "->", "::", "Exact\\b", "\\bpackage\\b", "\\bvar\\b", "\\bprotected\\b", "\\bhashCode\\b", "\\btoString\\b",
            "\\bSystem\\.(?!arraycopy)", "\\bThread\\b", "\\bRandom\\b", "\\bObject\\b", "\\bstatic\\s*\\{", "\\bnative\\b",
            "\\bvolatile\\b", "\\binterface\\b.*\\bdefault\\b", "\\bArrays\\.(?!fill|copyOf|copyOfRange)", "@", "while\\s*\\(true\\)",
            "for\\s*\\(;;\\)", "\\\""};
        for (String word : never) {
            Matcher m = Pattern.compile(word).matcher(bare);
            due("no " + word, m.find(), false);
        }
        Matcher imports = Pattern.compile("import\\s+([^;]+);").matcher(bare);
        while (imports.find()) due("import", imports.group(1), "java.util.Arrays");
    }

    private static void lengths() throws Exception {
        String[] lines = program().split("\n");
        int from = -1;
        String indent = "";
        for (int i = 0; i < lines.length; i++) {
            due("line " + (i + 1) + " has at most 120 signs", lines[i].length() <= 120, true);
            Matcher start = Pattern.compile("^( +)[\\w<>\\[\\] ]+\\([^;]*\\) \\{$").matcher(lines[i]);
            if (from < 0 && start.matches() && !lines[i].matches(" +(if|for|while|switch|else)\\b.*")) {
                from = i;
                indent = start.group(1);
            } else if (from >= 0 && lines[i].equals(indent + "}")) {
                due("the method at line " + (from + 1) + " is short", i - from <= 60, true);
                from = -1;
            }
        }
    }

    /** All that a run makes stands in one room, so calls make nothing: rows are made once. */
    private static void room() throws Exception {
        String code = program();
        Matcher made = Pattern.compile("\\bnew\\b").matcher(code);
        int all = 0;
        while (made.find()) all++;
        int early = 0;
        String[] lines = code.split("\n");
        String end = "";
        for (String line : lines) {
            if (line.matches("(    )+(public )?[A-Z]\\w*\\(.*\\) \\{")) end = line.replaceAll("\\S.*", "}");
            boolean field = line.matches(" +(private )?(static )?final [\\w\\[\\]]+ \\w+ = new .*;");
            if (field || !end.isEmpty()) early += line.split("\\bnew\\b", -1).length - 1;
            if (line.equals(end)) end = "";
        }
        due("all is made as fields or in constructors", early, all);
    }
}
