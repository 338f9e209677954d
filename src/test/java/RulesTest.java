import java.lang.reflect.Field;
import java.lang.reflect.Method;
import java.lang.reflect.Modifier;
import java.nio.file.Files;
import java.nio.file.Path;
import java.util.ArrayList;
import java.util.HashMap;
import java.util.List;
import java.util.Map;
import java.util.TreeSet;
import java.util.regex.Matcher;
import java.util.regex.Pattern;

/** The rules of ../shared/LANGUAGE.md, as far as a look at the class and at its text can tell; run in the project's folder. */
public final class RulesTest {
    private static final String FACE = "int coin(int) int of(int,int) int change(int,int) int lay(int,int,int) "
        + "int lift(int,int) int height(int,int) int seen(int,int,int) int set(int,int) int drop(int,int) int beats(int) "
        + "int now(int) int run(int) int weight(int) int moved() int leaning() int ahead(int,int) int falls(int) int rest() "
        + "int brings(int,int,int) int best(int,int) int wait(int,int) int three(int) int threeBring(int) int soonest(int) "
        + "int firstFor(int) long ways(int,int) long total(int) long luck(int,int) int play(int) int jolt() int jolted() "
        + "int stroke(int) int force(int,int) int kindFor(int,int) int seed(int) int feed(int,int) int wipe() int text() "
        + "int hold(int,int) int as(int,int) int sheet(int,int,int) int write(int,int,int) int copy(int,int,int,int,int) "
        + "int load(int) int judge(int) int image() int undo() int tear() int count(int) int status(int)";
    private static final Pattern METHOD = Pattern.compile("(?m)^ +[a-z][a-zA-Z\\[\\] ]* ([a-zA-Z]+)\\(([^()]*)\\) \\{$");
    private static final Pattern CALL = Pattern.compile("\\b([a-z][a-zA-Z]*)\\(");

    private static int wrong = 0;

    public static void main(String[] args) throws Exception {
        String text = Files.readString(Path.of("src/main/java/PennyLedge.java"));
        String code = text.replaceAll("(?s)/\\*.*?\\*/", "").replaceAll("//[^\n]*", "").replaceAll("\"[^\"]*\"", "\"\"");
        face();
        inside();
        words(code);
        methods(code);
        System.out.println(wrong == 0 ? "all rules are kept" : wrong + " rules are not kept");
        if (wrong != 0) {
            System.exit(1);
        }
    }

    private static void check(boolean kept, String rule) {
        if (!kept) {
            wrong++;
            System.out.println("not kept: " + rule);
        }
    }

    private static void face() {
        Class<?> c = PennyLedge.class;
        check(Modifier.isPublic(c.getModifiers()) && Modifier.isFinal(c.getModifiers()), "1: public and final");
        check(c.getPackageName().isEmpty(), "no package");
        check(c.getDeclaredConstructors().length == 1 && c.getConstructors().length == 1, "1: one constructor");
        TreeSet<String> due = new TreeSet<>(List.of(FACE.split("(?<=\\)) ")));
        TreeSet<String> told = new TreeSet<>();
        for (Method m : c.getDeclaredMethods()) {
            if (m.isSynthetic() || Modifier.isPrivate(m.getModifiers())) {
                continue;
            }
            StringBuilder all = new StringBuilder();
            for (Class<?> p : m.getParameterTypes()) {
                all.append(all.length() == 0 ? "" : ",").append(p.getName());
            }
            told.add(m.getReturnType() + " " + m.getName() + "(" + all + ")");
        }
        check(told.equals(due), "1: the face: " + told);
    }

    private static void inside() {
        List<Class<?>> all = new ArrayList<>(List.of(PennyLedge.class.getDeclaredClasses()));
        check(all.size() <= 11, "11: twelve classes");
        for (Class<?> c : all) {
            check(Modifier.isStatic(c.getModifiers()) && !Modifier.isPublic(c.getModifiers()), "2: " + c);
            for (Method m : c.getDeclaredMethods()) {
                check(!FACE.contains(" " + m.getName() + "("), "1: a method inside named " + m.getName());
            }
        }
        for (Method m : PennyLedge.class.getDeclaredMethods()) {
            check(!Modifier.isPrivate(m.getModifiers()) || !FACE.contains(" " + m.getName() + "("), "1: private " + m.getName());
        }
        all.add(PennyLedge.class);
        for (Class<?> c : all) {
            int fields = 0;
            for (Field f : c.getDeclaredFields()) {
                boolean constant = Modifier.isStatic(f.getModifiers());
                fields += constant ? 0 : 1;
                check(!constant || Modifier.isFinal(f.getModifiers()), "5: " + f);
                check(c != PennyLedge.class || Modifier.isPrivate(f.getModifiers()), "1: " + f);
            }
            check(fields <= 20, "11: twenty fields in " + c);
        }
    }

    private static void words(String code) {
        String[] none = {"throw", "throws", "try", "catch", "synchronized", "assert", "import", "package", "double", "float",
            "equals", "hashCode", "toString", "Exact", "null", "System.out", "Object", "static {", "->", "::", "@", "\"\" +", "+ \"\""};
        for (String word : none) {
            check(!Pattern.compile("(?<![A-Za-z])" + Pattern.quote(word) + "(?![A-Za-z])").matcher(code).find(), word);
        }
        for (char c : code.toCharArray()) {
            check(c < 127, "4: sign " + (int) c);
        }
    }

    private static void methods(String code) {
        Map<String, TreeSet<String>> calls = new HashMap<>();
        Matcher m = METHOD.matcher(code);
        while (m.find()) {
            String end = "\n" + m.group().replaceAll("[^ ].*", "") + "}\n";
            int close = code.indexOf(end, m.end());
            String body = code.substring(m.end(), close);
            check(body.lines().count() <= 60, "11: sixty lines in " + m.group(1));
            check(m.group(2).split(",").length <= 7, "11: seven parameters of " + m.group(1));
            TreeSet<String> called = calls.computeIfAbsent(m.group(1), k -> new TreeSet<>());
            Matcher call = CALL.matcher(body);
            while (call.find()) {
                called.add(call.group(1));
            }
        }
        check(calls.size() > 100, "methods found: " + calls.size());
        for (String name : calls.keySet()) {
            int deep = depth(name, calls, 0);
            check(deep <= 8, "11: calls go " + deep + " deep from " + name);
        }
    }

    /** Methods of one name count as one; what calls itself ends far above eight. */
    private static int depth(String name, Map<String, TreeSet<String>> calls, int open) {
        if (!calls.containsKey(name)) {
            return 0;
        }
        if (open > 20) {
            return 1000;
        }
        int most = 0;
        for (String called : calls.get(name)) {
            most = Math.max(most, depth(called, calls, open + 1));
        }
        return 1 + most;
    }
}
