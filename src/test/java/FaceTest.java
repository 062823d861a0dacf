import java.lang.reflect.Constructor;
import java.lang.reflect.Field;
import java.lang.reflect.Method;
import java.lang.reflect.Modifier;
import java.nio.file.Files;
import java.nio.file.Path;
import java.util.ArrayList;
import java.util.List;
import java.util.Set;
import java.util.TreeSet;
import java.util.regex.Matcher;
import java.util.regex.Pattern;

/** The public face as the document tells it, and those rules of LANGUAGE.md that can be looked up. */
public final class FaceTest {
    private static final Check CHECK = new Check("FaceTest");
    private static final String[] FACE = {
        "int pass(int)", "int line(int,int,int,int)", "int miles(int,int,int)", "int way(int,int,int)",
        "int feed(int,int)", "int law(int,int)", "int holds(int,int,int)", "int rate(int,int,int,int,int,int,int)",
        "int special(int,int,int,int,int,int)", "int withdraw(int)", "int set(int,int)", "int undo(int)",
        "int of(int,int)", "int charge(int,int,int,int)", "int most(int,int,int)", "int part(int,int,int)",
        "int truck(int,int,int,int,int)", "int book(int,int,int)", "int ended()", "int due(int)",
        "int unlike(int,int,int)", "int unlikes(int)", "long suit(int)", "int cheap(int,int,int,int,int,int)",
        "int cry(int,int,int,int,int)", "int want(int,int,int,int,int)", "int ships(int,int)", "int takings(int,int)",
        "int tries(int,int,int)", "int list(int)", "int listless()", "int change(int)",
        "int friends(int,int,int,int,int,int,int)", "int act(int,int,int)", "int trace(int)", "int taken(int,int)",
        "int count(int)", "int tape(int,int,int)", "int item(int,int,long)", "long read(int,int)",
        "int shift(int,int,int,int,int)",
    };

    public static void main(String[] args) throws Exception {
        face();
        classes();
        source();
        CHECK.end();
    }

    private static String told(Method m) {
        List<String> types = new ArrayList<>();
        for (Class<?> type : m.getParameterTypes()) {
            types.add(type.getName());
        }
        return m.getReturnType().getName() + " " + m.getName() + "(" + String.join(",", types) + ")";
    }

    private static void face() {
        Class<?> c = PennyRates.class;
        CHECK.holds("public and final", c.getModifiers() == (Modifier.PUBLIC | Modifier.FINAL));
        Set<String> open = new TreeSet<>();
        for (Method m : c.getDeclaredMethods()) {
            if (!Modifier.isPrivate(m.getModifiers())) {
                open.add(told(m));
                CHECK.holds(m + " is public alone", m.getModifiers() == Modifier.PUBLIC);
            }
        }
        CHECK.holds("the methods of the face: " + open, open.equals(new TreeSet<>(List.of(FACE))));
        Constructor<?>[] makers = c.getDeclaredConstructors();
        CHECK.due("constructors", makers.length, 1);
        CHECK.holds("a public one without arguments",
            makers[0].getModifiers() == Modifier.PUBLIC && makers[0].getParameterCount() == 0);
        Set<String> constants = new TreeSet<>();
        for (Field f : c.getDeclaredFields()) {
            if (!Modifier.isPrivate(f.getModifiers())) {
                constants.add(f.getType() + " " + f.getName());
            }
        }
        CHECK.holds("the constants: " + constants,
            constants.equals(Set.of("int NONE", "int BAD", "int STATE", "int FULL", "long NO")));
    }

    private static void classes() {
        Set<String> face = new TreeSet<>();
        for (Method m : PennyRates.class.getDeclaredMethods()) {
            if (Modifier.isPublic(m.getModifiers())) {
                face.add(m.getName());
            }
        }
        List<Class<?>> all = new ArrayList<>(List.of(PennyRates.class.getDeclaredClasses()));
        all.add(PennyRates.class);
        CHECK.holds("twelve classes at most", all.size() <= 12);
        for (Class<?> c : all) {
            int fields = 0;
            for (Field f : c.getDeclaredFields()) {
                boolean fixed = Modifier.isStatic(f.getModifiers());
                CHECK.holds(f + ": static fields are final", !fixed || Modifier.isFinal(f.getModifiers()));
                fields += fixed ? 0 : 1;
            }
            CHECK.holds(c + " has twenty fields at most", fields <= 20);
            for (Method m : c.getDeclaredMethods()) {
                CHECK.holds(m + " takes seven at most", m.getParameterCount() <= 7);
                boolean own = c == PennyRates.class && Modifier.isPublic(m.getModifiers());
                CHECK.holds(m + " bears no name of the face", own || !face.contains(m.getName()));
            }
            boolean isInside = c != PennyRates.class;
            CHECK.holds(c + " is static", !isInside || Modifier.isStatic(c.getModifiers()));
        }
    }

    private static void source() throws Exception {
        String path = System.getProperty("main", "src/main/java/PennyRates.java");
        String text = Files.readString(Path.of(path));
        String code = text.replaceAll("(?s)/\\*.*?\\*/", "").replaceAll("//[^\n]*", "");
        for (String word : new String[] {"throw", "throws", "try", "catch", "finally", "synchronized", "assert",
            "package", "protected", "volatile", "native", "transient", "float", "double", "equals", "hashCode",
            "toString", "System.out", "System.err", "Exact"}) {
            CHECK.holds("no " + word, !Pattern.compile("\\b" + Pattern.quote(word) + "\\b").matcher(code).find());
        }
        for (String sign : new String[] {"->", "::", "@", "\" +", "+ \""}) {
            CHECK.holds("no " + sign, !code.contains(sign));
        }
        Matcher imports = Pattern.compile("import ([^;]*);").matcher(code);
        while (imports.find()) {
            CHECK.holds("import of " + imports.group(1), imports.group(1).equals("java.util.Arrays"));
        }
        for (char c : text.toCharArray()) {
            if (c > 126) {
                CHECK.holds("plain signs only", false);
            }
        }
        methodLengths(code);
    }

    /** A method begins with an indented line that ends in {, and ends with } at the same indent. */
    private static void methodLengths(String code) {
        Matcher m = Pattern.compile("(?m)^( {4}| {8})\\S[^=;\n]*\\) \\{\n(?s:.*?)\n\\1\\}").matcher(code);
        int methods = 0;
        while (m.find()) {
            methods++;
            long length = m.group().lines().count();
            CHECK.holds("a method of " + length + " lines: " + m.group().lines().findFirst().get(), length <= 60);
        }
        CHECK.holds("methods were found: " + methods, methods > 100);
    }
}
