import java.io.IOException;
import java.lang.management.ManagementFactory;
import java.lang.reflect.Field;
import java.lang.reflect.Method;
import java.lang.reflect.Modifier;
import java.nio.file.Files;
import java.nio.file.Path;
import java.util.Arrays;
import java.util.Set;
import java.util.TreeSet;
import java.util.regex.Matcher;
import java.util.regex.Pattern;

/** The document's public face, rules of LANGUAGE.md that a test can see, and that calls make nothing. */
public final class RulesTest {
    private static final Checks T = new Checks();
    private static final String[] FACE = {
        "rack(int,int,int,int)", "load(int,int)", "share(int,int,int)", "sheet(int,int,int)",
        "lay(int,int,long)", "draw(int,int,int)", "set(int,int)", "price(int,int)", "into(int)", "hot(int)",
        "power(int,int)", "best()", "minutes(int)", "machine(int,int)", "leave()", "placed(int)",
        "warmest()", "placings()", "feed(int,int)", "plug(int,int,int)", "fail(int,boolean)",
        "through(int)", "state(int)", "weak()", "cause(int)", "seen(int)", "roots()", "strange()",
        "meter(int)", "reads(int,int)", "loses(int)", "known(int)", "quarrel()", "count(int)"};

    public static void main(String[] args) throws IOException {
        face();
        constants();
        fields();
        words();
        methods();
        nothingIsMade();
        T.end();
    }

    private static String signature(Method m) {
        StringBuilder text = new StringBuilder(m.getName()).append('(');
        for (Class<?> type : m.getParameterTypes()) {
            text.append(text.charAt(text.length() - 1) == '(' ? "" : ",").append(type.getName());
        }
        return text.append(')').toString();
    }

    private static void face() {
        T.part("rule 1, the face");
        Set<String> names = new TreeSet<>();
        Set<String> found = new TreeSet<>();
        for (Method m : ColdRows.class.getDeclaredMethods()) {
            if (Modifier.isPublic(m.getModifiers())) {
                names.add(m.getName());
                found.add(signature(m));
                T.isTrue(m + " answers an int", m.getReturnType() == int.class);
            }
        }
        T.isTrue("the public methods are the document's: " + found, found.equals(new TreeSet<>(Arrays.asList(FACE))));
        for (Method m : ColdRows.class.getDeclaredMethods()) {
            if (!Modifier.isPublic(m.getModifiers())) {
                T.isTrue(m + " is private", Modifier.isPrivate(m.getModifiers()));
                T.isTrue(m + " has a name of its own", !names.contains(m.getName()));
            }
        }
        T.isTrue("the class is public and final", ColdRows.class.getModifiers() == (Modifier.PUBLIC | Modifier.FINAL));
        T.due("constructors", ColdRows.class.getDeclaredConstructors().length, 1);
        T.due("public constructors without arguments", ColdRows.class.getConstructors()[0].getParameterCount(), 0);
        for (Class<?> inside : ColdRows.class.getDeclaredClasses()) {
            T.isTrue(inside + " is static", Modifier.isStatic(inside.getModifiers()));
        }
    }

    private static void constants() {
        T.part("the constants");
        T.due("BAD", ColdRows.BAD, -1);
        T.due("STATE", ColdRows.STATE, -2);
        T.due("FULL", ColdRows.FULL, -3);
        T.due("NONE", ColdRows.NONE, -4);
        T.due("public fields", ColdRows.class.getFields().length, 4);
    }

    private static void fields() {
        T.part("rules 1, 5 and 11, fields");
        for (Field f : ColdRows.class.getDeclaredFields()) {
            T.isTrue(f + " is private or a constant", Modifier.isPrivate(f.getModifiers())
                || Modifier.isPublic(f.getModifiers()) && Modifier.isStatic(f.getModifiers()));
        }
        T.isTrue("there are at most twelve classes", ColdRows.class.getDeclaredClasses().length <= 11);
        fieldsOf(ColdRows.class);
        for (Class<?> inside : ColdRows.class.getDeclaredClasses()) {
            fieldsOf(inside);
        }
    }

    private static void fieldsOf(Class<?> type) {
        int own = 0;
        for (Field f : type.getDeclaredFields()) {
            boolean isStatic = Modifier.isStatic(f.getModifiers());
            own += isStatic ? 0 : 1;
            T.isTrue(f + " is no static state", !isStatic || Modifier.isFinal(f.getModifiers()));
        }
        T.isTrue(type + " has at most twenty fields", own <= 20);
    }

    private static void words() throws IOException {
        T.part("rules 2, 4 and 6, words");
        String source = Files.readString(Path.of("src/main/java/ColdRows.java"));
        String code = source.replaceAll("(?s)/\\*.*?\\*/", " ").replaceAll("//[^\n]*", " ");
        String[] never = {"throw", "throws", "try", "catch", "synchronized", "assert", "package", "yield",
            "volatile", "native", "protected", "hashCode", "Exact"};
        for (String word : never) {
            T.isTrue(word + " stands nowhere", !Pattern.compile("\\b\\w*" + word + "\\b").matcher(code).find());
        }
        T.isTrue("no lambda, no method reference", !code.contains("->") && !code.contains("::"));
        Matcher imports = Pattern.compile("\\bimport\\s+([^;]+);").matcher(code);
        while (imports.find()) {
            T.isTrue(imports.group(1) + " is listed", imports.group(1).matches("java\\.util\\.(Arrays|ArrayList|List|Iterator)"));
        }
        for (int i = 0; i < source.length(); i++) {
            if (source.charAt(i) > 255) {
                T.isTrue("character " + i + " is below 256", false);
            }
        }
    }

    private static void methods() throws IOException {
        T.part("rule 11, methods");
        parametersOf(ColdRows.class);
        for (Class<?> inside : ColdRows.class.getDeclaredClasses()) {
            parametersOf(inside);
        }
        Pattern head = Pattern.compile("( {4}| {8})(?! )[\\w\\[\\] ]+\\([^;]*\\) \\{");
        String[] lines = Files.readString(Path.of("src/main/java/ColdRows.java")).split("\n");
        int found = 0;
        for (int from = 0; from < lines.length; from++) {
            Matcher m = head.matcher(lines[from]);
            if (m.matches() && !lines[from].trim().matches("(if|for|while|switch)\\b.*")) {
                int to = from;
                while (to < lines.length && !lines[to].equals(m.group(1) + "}")) {
                    to++;
                }
                found++;
                T.isTrue(lines[from].trim() + " is short", to - from < 60);
            }
        }
        T.isTrue("the methods are found, not only " + found, found > FACE.length);
    }

    private static void parametersOf(Class<?> type) {
        for (Method m : type.getDeclaredMethods()) {
            T.isTrue(m + " takes at most seven", m.getParameterCount() <= 7);
        }
    }

    /** The room of a run is counted, so calls use what the constructor made. */
    private static void nothingIsMade() {
        T.part("what calls make");
        com.sun.management.ThreadMXBean beans = (com.sun.management.ThreadMXBean) ManagementFactory.getThreadMXBean();
        if (!beans.isThreadAllocatedMemorySupported()) {
            return;
        }
        callAll(new ColdRows());
        ColdRows x = new ColdRows();
        long thread = Thread.currentThread().getId();
        beans.getThreadAllocatedBytes(thread);
        long before = beans.getThreadAllocatedBytes(thread);
        callAll(x);
        long made = beans.getThreadAllocatedBytes(thread) - before;
        // What asking costs itself is far below one row for each of the calls.
        T.isTrue("calls make nothing, not " + made + " bytes", made < 2048);
    }

    private static void callAll(ColdRows x) {
        for (int n = 0; n < 12; n++) {
            x.rack(n, 20000 + n, 1 + n, 20);
            x.load(n, n);
            x.share(n, 0, n);
            x.sheet(n % 4, n % 3, 64);
            x.lay(n % 4, n, n);
            x.draw(n % 4, n % 3, 0);
            x.set(10 + n, 1 + n % 5);
            x.price(10 + n, n);
            x.into(n);
            x.hot(n % 3);
            x.power(10 + n, 1);
            x.best();
            x.minutes(n);
            x.machine(1 + n, 1 + n % 3);
            x.placed(n);
            x.warmest();
            x.placings();
            x.feed(n - 1, n);
            x.feed(-4, n);
            x.plug(n, n % 2, n);
            x.fail(n, n % 5 == 4);
            x.through(n);
            x.state(n % 5);
            x.weak();
            x.cause(1 + n);
            x.seen(15);
            x.roots();
            x.strange();
            x.meter(n == 0 ? -4 : n / 2);
            x.reads(n, n);
            x.loses(n / 2);
            x.known(n);
            x.quarrel();
            x.count(n);
        }
        x.leave();
    }
}
