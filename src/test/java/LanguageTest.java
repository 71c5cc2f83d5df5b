import java.lang.reflect.Field;
import java.lang.reflect.Method;
import java.lang.reflect.Modifier;
import java.nio.charset.StandardCharsets;
import java.nio.file.Files;
import java.nio.file.Path;
import java.util.ArrayList;
import java.util.List;
import java.util.TreeSet;
import java.util.regex.Matcher;
import java.util.regex.Pattern;

/** The public face of the document, and those rules of LANGUAGE.md that can be seen in the text or by reflection. */
public final class LanguageTest {
    private static final Due due = new Due("LanguageTest");
    private static final String FACE = "field(int,int) cell(int,int,int,int,int) lay(int,int) cellOf(int,int) hour() "
            + "person() owner(int,int) lease(int,int,int,int) leaseOf(int,int) holds(int) told(int,int) "
            + "drill(int,int,int) why(int,int) will(int,int) open(int,boolean) wellOf(int,int) drew(int,int,int) "
            + "sell(int,int) price(int) feed(long) end(int) orders() fault() line(int,int) voids(int) "
            + "lets(int,int,int) spot(int,int) gain(int,int,int,int,int,int) steady(int,int,int,int,int) "
            + "must(int,int,int,int,int) keep() stand(int) sheet(int,int,int) write(int,int,int) scan(int,int,int) "
            + "count(int)";

    public static void main(String[] args) throws Exception {
        face();
        constants();
        members();
        words();
        methods();
        due.end();
    }

    private static String signature(Method m) {
        StringBuilder types = new StringBuilder();
        for (Class<?> type : m.getParameterTypes()) {
            types.append(types.length() > 0 ? "," : "").append(type.getName());
        }
        return m.getName() + "(" + types + ")";
    }

    private static void face() {
        TreeSet<String> want = new TreeSet<>(List.of(FACE.split(" ")));
        TreeSet<String> got = new TreeSet<>();
        for (Method m : OilTown.class.getDeclaredMethods()) {
            if (Modifier.isPrivate(m.getModifiers())) {
                due.holds("no private method bears a public name: " + m.getName(),
                        want.stream().noneMatch(s -> s.startsWith(m.getName() + "(")));
                continue;
            }
            got.add(signature(m));
            due.holds("public, of int: " + m, Modifier.isPublic(m.getModifiers()) && m.getReturnType() == int.class
                    && !Modifier.isStatic(m.getModifiers()));
        }
        due.holds("the face: " + got, got.equals(want));
        due.is("calls", got.size(), 36);
        due.is("constructors", OilTown.class.getDeclaredConstructors().length, 1);
        due.holds("a public one", OilTown.class.getConstructors().length == 1
                && OilTown.class.getConstructors()[0].getParameterCount() == 0);
        due.holds("public and final", Modifier.isPublic(OilTown.class.getModifiers())
                && Modifier.isFinal(OilTown.class.getModifiers()));
    }

    private static void constants() {
        due.is("BAD", OilTown.BAD, -1);
        due.is("STATE", OilTown.STATE, -2);
        due.is("FULL", OilTown.FULL, -3);
        due.is("NONE", OilTown.NONE, -4);
    }

    private static void members() {
        int open = 0;
        for (Field f : OilTown.class.getDeclaredFields()) {
            open += Modifier.isPrivate(f.getModifiers()) ? 0 : 1;
        }
        due.is("constants of the face", open, 4);
        List<Class<?>> classes = new ArrayList<>(List.of(OilTown.class.getDeclaredClasses()));
        for (Class<?> c : classes) {
            due.holds("static: " + c, Modifier.isStatic(c.getModifiers()));
            due.holds("private or package-visible: " + c, !Modifier.isPublic(c.getModifiers())
                    && !Modifier.isProtected(c.getModifiers()));
        }
        classes.add(OilTown.class);
        due.holds("at most twelve classes", classes.size() <= 12);
        for (Class<?> c : classes) {
            int fields = 0;
            for (Field f : c.getDeclaredFields()) {
                boolean isStatic = Modifier.isStatic(f.getModifiers());
                fields += isStatic ? 0 : 1;
                due.holds("a static field is final: " + f, !isStatic || Modifier.isFinal(f.getModifiers()));
            }
            due.holds("at most twenty fields: " + c, fields <= 20);
            for (Method m : c.getDeclaredMethods()) {
                due.holds("at most seven parameters: " + m, m.getParameterCount() <= 7);
            }
        }
    }

    private static String source() throws Exception {
        byte[] text = Files.readAllBytes(Path.of("src/main/java/OilTown.java"));
        return new String(text, StandardCharsets.ISO_8859_1);
    }

    private static String withoutComments(String text) {
        return text.replaceAll("(?s)/\\*.*?\\*/", "").replaceAll("//[^\n]*", "");
    }

    private static void words() throws Exception {
        String code = withoutComments(source());
        for (String word : List.of("package", "throw", "throws", "try", "catch", "finally", "synchronized", "assert",
                "protected", "volatile", "native", "strictfp", "System\\.out", "System\\.in", "Thread", "Random",
                "hashCode", "toString", "getClass", "double", "float")) {
            due.holds("no word " + word, !Pattern.compile("\\b" + word + "\\b").matcher(code).find());
        }
        due.holds("no lambda, no method reference", !code.contains("->") && !code.contains("::"));
        due.holds("no name that ends in Exact", !code.contains("Exact("));
        for (char c : source().toCharArray()) {
            due.holds("plain signs alone: " + (int) c, c == '\n' || c >= 32 && c < 127);
        }
        Matcher imports = Pattern.compile("import [^;]*;").matcher(code);
        while (imports.find()) {
            due.holds(imports.group(), imports.group().equals("import java.util.Arrays;"));
        }
    }

    /** A method's lines: from its head to the brace of the same depth. */
    private static void methods() throws Exception {
        String[] lines = source().split("\n");
        for (int i = 0; i < lines.length; i++) {
            Matcher head = Pattern.compile("^( +)(?!private static final class)[a-zA-Z].*\\) \\{$").matcher(lines[i]);
            if (!head.find() || lines[i].contains(" class ") || head.group(1).length() > 8) {
                continue;
            }
            int end = i;
            while (end < lines.length && !lines[end].equals(head.group(1) + "}")) {
                end++;
            }
            due.holds("at most sixty lines: " + lines[i].trim(), end - i < 60);
        }
    }
}
