import java.io.IOException;
import java.lang.reflect.Constructor;
import java.lang.reflect.Field;
import java.lang.reflect.Method;
import java.lang.reflect.Modifier;
import java.nio.file.Files;
import java.nio.file.Path;
import java.util.Arrays;
import java.util.Random;
import java.util.Set;
import java.util.TreeSet;
import java.util.regex.Pattern;
import java.util.stream.Collectors;

/** The public face, the rules of LANGUAGE.md that a test can see, and calls of all kinds that throw nothing else. */
public final class FaceTest {
    private static final Check CHECK = new Check("FaceTest");

    private static final String[] FACE = {
        "int feed(int, int, int, int, int)",
        "int table(int) throws IllegalArgumentException",
        "int fault()",
        "int count(int) throws NoSuchElementException",
        "int dish(int, int) throws NoSuchElementException",
        "int poison(int, int) throws NoSuchElementException",
        "int taster(int, int) throws NoSuchElementException",
        "int shows(int, int, boolean) throws NoSuchElementException",
        "int plan(int, int) throws NoSuchElementException, IllegalArgumentException",
        "int planned(int, int) throws NoSuchElementException",
        "int bars(int) throws IllegalArgumentException",
        "int worth(int, int) throws NoSuchElementException, IllegalArgumentException",
        "int ate(int, int, int, boolean) throws NoSuchElementException",
        "int fell(int, int) throws NoSuchElementException",
        "int undo()",
        "int cases(int) throws NoSuchElementException",
        "int odds(int, int) throws NoSuchElementException",
        "int pairs()",
        "int next(int) throws NoSuchElementException",
        "int waiting(int) throws IllegalArgumentException",
        "int trial(int, int, int, int, int) throws NoSuchElementException, IllegalArgumentException",
        "boolean begin(int, int, int) throws IllegalArgumentException",
        "int on(int) throws IllegalArgumentException",
        "int day(int, int) throws NoSuchElementException",
        "int had(int, int) throws NoSuchElementException",
        "void image()",
        "boolean restore()"};

    public static void main(String[] args) throws IOException {
        face();
        source();
        for (int seed = 0; seed < 250; seed++) {
            anyCalls(new Random(seed));
        }
        CHECK.finish();
    }

    private static void face() {
        Set<String> found = new TreeSet<>();
        Set<String> publicNames = new TreeSet<>();
        for (Method m : TasterTable.class.getDeclaredMethods()) {
            if (Modifier.isPublic(m.getModifiers())) {
                found.add(told(m));
                publicNames.add(m.getName());
            }
        }
        holds("the face is " + found, found.equals(new TreeSet<>(Arrays.asList(FACE))));
        for (Method m : TasterTable.class.getDeclaredMethods()) {
            int modifiers = m.getModifiers();
            holds(m + " is public, or private with a name of its own", Modifier.isPublic(modifiers)
                    || Modifier.isPrivate(modifiers) && !publicNames.contains(m.getName()));
            holds(m + " isn't static and public", !(Modifier.isPublic(modifiers) && Modifier.isStatic(modifiers)));
        }
        for (Field f : TasterTable.class.getDeclaredFields()) {
            holds(f + " is private, or NONE", Modifier.isPrivate(f.getModifiers()) || f.getName().equals("NONE"));
            holds(f + " is final, if static", !Modifier.isStatic(f.getModifiers()) || Modifier.isFinal(f.getModifiers()));
        }
        Constructor<?>[] made = TasterTable.class.getDeclaredConstructors();
        holds("one public constructor", made.length == 1 && Modifier.isPublic(made[0].getModifiers())
                && made[0].getParameterCount() == 0);
        holds("public and final", TasterTable.class.getModifiers() == (Modifier.PUBLIC | Modifier.FINAL));
        for (Class<?> inside : TasterTable.class.getDeclaredClasses()) {
            holds(inside + " is static and not public", Modifier.isStatic(inside.getModifiers())
                    && !Modifier.isPublic(inside.getModifiers()) && !Modifier.isProtected(inside.getModifiers()));
            for (Method m : inside.getDeclaredMethods()) {
                holds(m + " bears no name of the face", !publicNames.contains(m.getName()));
                holds(m + " takes at most seven", m.getParameterCount() <= 7);
            }
        }
        holds("at most twelve classes", TasterTable.class.getDeclaredClasses().length < 12);
    }

    private static String told(Method m) {
        String thrown = Arrays.stream(m.getExceptionTypes()).map(Class::getSimpleName).collect(Collectors.joining(", "));
        return m.getReturnType() + " " + m.getName() + "("
                + Arrays.stream(m.getParameterTypes()).map(Class::getName).collect(Collectors.joining(", ")) + ")"
                + (thrown.isEmpty() ? "" : " throws " + thrown);
    }

    private static void source() throws IOException {
        String text = Files.readString(Path.of("src/main/java/TasterTable.java"));
        String code = text.replaceAll("(?s)/\\*.*?\\*/", "").replaceAll("//[^\n]*", "").replaceAll("\"[^\"\n]*\"", "\"\"");
        String[] never = {"\\btry\\b", "\\bcatch\\b", "\\bfinally\\b", "->", "::", "\\bassert\\b", "\\bsynchronized\\b",
            "\\bdouble\\b", "\\bfloat\\b", "\\bSystem\\.(?!arraycopy)", "\\w+Exact\\b", "\\bvar\\b", "static\\s*\\{",
            "\\bpackage\\b", "\\bRandom\\b", "\\bThread\\b", "\\bwhile\\s*\\(true\\)", "for\\s*\\(;;", "\\bhashCode\\b"};
        for (String word : never) {
            holds("no " + word, !Pattern.compile(word).matcher(code).find());
        }
        for (String line : code.split("\n")) {
            holds(line, !line.startsWith("import")
                    || line.matches("import java\\.util\\.(Arrays|NoSuchElementException|ArrayList|List);"));
        }
        methodsAreShort(code);
    }

    private static void methodsAreShort(String code) {
        String[] lines = code.split("\n");
        int start = -1;
        for (int i = 0; i < lines.length; i++) {
            if (lines[i].matches(" {4}( {4})?[a-zA-Z].*\\).*\\{")) {
                start = i;
            } else if (start >= 0 && lines[i].matches(" {4}( {4})?\\}")) {
                holds(lines[start] + " is short", i - start < 60);
                start = -1;
            }
        }
    }

    private static void holds(String what, boolean so) {
        CHECK.same(what, 1, () -> so ? 1 : 0);
    }

    // ---- any calls in any state: what the face allows is thrown, and nothing else ----

    private static final String[] TEXTS = {"", "dish 0 30;", "poison 5;", "taster plain;",
        "dish 0 30 weight 4;dish 5 40 weight 2;dish 8 33;dish 20 60 weight 7;dish 2 25;dish 0 9;poison 6 weight 3;"
            + "poison 14 hardens 3 weight 2;poison 9 wine weight 5;poison 3 hardens 1;poison 40;taster plain cap 3;taster drunk;"
            + "taster dog cap 2;taster slow cap 4;taster plain;clean 20;had 0 1 2;had 4 3 1;",
        "dish 0 30;dish 5 40 weight 0;poison 6 hardens 2;poison 4;taster plain cap 1;taster liar;taster dog;had 0 0 1;",
        "dish 0 30;".repeat(6) + "poison 3 hardens 9 weight 99;".repeat(5) + "taster plain cap 3;".repeat(5)};

    private static void anyCalls(Random random) {
        TasterTable x = new TasterTable();
        for (int call = 0; call < 300; call++) {
            if (call % 100 == 0 && x.count(6) < 300) {
                x.table(0);
                Check.table(x, TEXTS[random.nextInt(TEXTS.length)]);
            }
            anyCall(x, random, FACE[random.nextInt(FACE.length)]);
        }
    }

    private static void anyCall(TasterTable x, Random random, String told) {
        int a = any(random);
        int b = any(random);
        int c = any(random);
        boolean w = random.nextBoolean();
        String name = told.substring(told.indexOf(' ') + 1, told.indexOf('('));
        long got = Check.of(() -> switch (name) {
            case "feed" -> x.feed(a, b, c, 0x20202020, 0x20202020);
            case "table" -> x.table(a);
            case "fault" -> x.fault();
            case "count" -> x.count(a);
            case "dish" -> x.dish(a, b);
            case "poison" -> x.poison(a, b);
            case "taster" -> x.taster(a, b);
            case "shows" -> x.shows(a, b, w);
            case "plan" -> x.plan(a, b);
            case "planned" -> x.planned(a, b);
            case "bars" -> x.bars(a);
            case "worth" -> x.worth(a, b);
            case "ate" -> x.ate(a, b, c, w);
            case "fell" -> x.fell(a, b);
            case "undo" -> x.undo();
            case "cases" -> x.cases(a);
            case "odds" -> x.odds(a, b);
            case "pairs" -> x.pairs();
            case "next" -> x.next(a);
            case "waiting" -> x.waiting(a);
            case "trial" -> x.trial(a, b, c, any(random), any(random));
            case "begin" -> x.begin(a, b, c) ? 1 : 0;
            case "on" -> x.on(a);
            case "day" -> x.day(a, b);
            case "had" -> x.had(a, b);
            case "image" -> {
                x.image();
                yield 0;
            }
            default -> x.restore() ? 1 : 0;
        });
        holds(name + "(" + a + ", " + b + ", " + c + ") throws by the document alone",
                got == Check.NO_SUCH ? told.contains("NoSuch") : got != Check.ILLEGAL || told.contains("Illegal"));
    }

    private static int any(Random random) {
        switch (random.nextInt(12)) {
            case 0: return random.nextInt();
            case 1: return random.nextBoolean() ? Integer.MAX_VALUE : Integer.MIN_VALUE;
            case 2: return random.nextInt(2100) - 20;
            case 3: return random.nextInt(120);
            default: return random.nextInt(9) - 1;
        }
    }
}
