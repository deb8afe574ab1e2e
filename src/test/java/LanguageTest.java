import java.io.IOException;
import java.lang.reflect.Constructor;
import java.lang.reflect.Field;
import java.lang.reflect.Method;
import java.lang.reflect.Modifier;
import java.nio.file.Files;
import java.nio.file.Path;
import java.util.ArrayList;
import java.util.Arrays;
import java.util.List;
import java.util.Set;
import java.util.TreeSet;
import java.util.regex.Matcher;
import java.util.regex.Pattern;

/** The rules of LANGUAGE.md that can be looked at from outside: the face, forbidden words, sizes of classes and methods. */
public final class LanguageTest {
    private static final String FACE = "row(int,int)int lay(int,int,int)int at(int,int)int tear(int)int copy(int,int,int,int,int)int "
        + "mean(int)int text(int,int)int put(int,int,int)int fault(int)int craft(int)int knot(int,int)int mark(int,int)int "
        + "length(int)int sign(int,int)int tie(int)int untie(int)int rope(int)int left()int reads(int)int lies(int)int "
        + "keep(int)int on(int)int judge(int)int takes(int)int says(int,int)int ropes(int)int nth(int,int,int)int "
        + "shortest(int,int)int ways(int)int signs(int,int)int change(int,int)int both(int,int,int)int slips(int)int "
        + "apart(int,int)int lent(int)int moths(int,int,int)int cuts(int)int packs(int)int lots(int,int,int)int asked()int "
        + "upper()long upTo(int)long count(int)int finding()int findings(int)int digest()long";
    private static final String CONSTANTS = "BAD=-1 FULL=-2 FINDING=-3 STATE=-4 SPENT=-6 NONE=-9";
    private static final String FORBIDDEN = "\\b(throw|throws|try|catch|synchronized|assert|float|double|Object|System\\.(?!arraycopy)"
        + "|Thread|Random|hashCode|toString|var|goto|native|volatile|\\w*Exact)\\b|->|::|@|\\bnew [A-Za-z]+\\([^)]*\\) *\\{";
    private static final int MOST_CLASSES = 12, MOST_FIELDS = 20, MOST_PARAMETERS = 7, MOST_LINES = 60;

    private static int wrong = 0;

    public static void main(String[] args) throws IOException, IllegalAccessException {
        face();
        constants();
        List<Class<?>> classes = new ArrayList<>(Arrays.asList(KnotRopes.class.getDeclaredClasses()));
        classes.add(KnotRopes.class);
        must(classes.size() <= MOST_CLASSES, classes.size() + " classes");
        for (Class<?> c : classes) {
            looks(c);
        }
        source(Files.readString(Path.of("src/main/java/KnotRopes.java")));
        System.out.println(wrong == 0 ? "the rules are kept" : wrong + " rules are broken");
        if (wrong != 0) {
            System.exit(1);
        }
    }

    private static void must(boolean kept, String what) {
        if (!kept) {
            wrong++;
            System.out.println("against LANGUAGE.md: " + what);
        }
    }

    private static void face() {
        Set<String> want = new TreeSet<>(Arrays.asList(FACE.split(" ")));
        Set<String> got = new TreeSet<>();
        for (Method m : KnotRopes.class.getDeclaredMethods()) {
            if (!Modifier.isPrivate(m.getModifiers()) && !m.isSynthetic()) {
                String types = Arrays.stream(m.getParameterTypes()).map(Class::getName).reduce((a, b) -> a + "," + b).orElse("");
                got.add(m.getName() + "(" + types + ")" + m.getReturnType().getName());
                must(Modifier.isPublic(m.getModifiers()), m.getName() + " is neither public nor private");
            }
        }
        must(got.equals(want), "the face is " + got);
        Constructor<?>[] made = KnotRopes.class.getDeclaredConstructors();
        must(made.length == 1 && made[0].getParameterCount() == 0 && Modifier.isPublic(made[0].getModifiers()), "the constructor");
        must(Modifier.isFinal(KnotRopes.class.getModifiers()) && Modifier.isPublic(KnotRopes.class.getModifiers()), "public final");
    }

    private static void constants() throws IllegalAccessException {
        Set<String> got = new TreeSet<>();
        for (Field f : KnotRopes.class.getDeclaredFields()) {
            if (!Modifier.isPrivate(f.getModifiers())) {
                got.add(f.getName() + "=" + f.getInt(null));
            }
        }
        must(got.equals(new TreeSet<>(Arrays.asList(CONSTANTS.split(" ")))), "the constants are " + got);
    }

    private static void looks(Class<?> c) {
        must(c == KnotRopes.class || Modifier.isStatic(c.getModifiers()), c.getName() + " is not static");
        int fields = 0;
        for (Field f : c.getDeclaredFields()) {
            if (!Modifier.isStatic(f.getModifiers())) {
                fields++;
            } else {
                must(Modifier.isFinal(f.getModifiers()) || f.isSynthetic(), c.getName() + "." + f.getName() + " is static, not final");
            }
        }
        must(fields <= MOST_FIELDS, c.getName() + " has " + fields + " fields");
        for (Method m : c.getDeclaredMethods()) {
            must(m.getParameterCount() <= MOST_PARAMETERS, m + " has too many parameters");
            boolean ofFace = FACE.matches("(.* )?" + m.getName() + "\\(.*");
            must(Modifier.isPublic(m.getModifiers()) || !ofFace, m + " has a name of the face");
        }
    }

    private static void source(String text) {
        String code = text.replaceAll("(?s)/\\*.*?\\*/", " ").replaceAll("//[^\n]*", " ");
        Matcher forbidden = Pattern.compile(FORBIDDEN).matcher(code);
        while (forbidden.find()) {
            must(false, "the source has '" + forbidden.group() + "'");
        }
        Matcher imports = Pattern.compile("(?m)^import (.*);").matcher(code);
        while (imports.find()) {
            must(imports.group(1).equals("java.util.Arrays"), "import " + imports.group(1));
        }
        must(!Pattern.compile("(?m)^package").matcher(code).find(), "a package line");
        int begun = 0;
        String[] lines = text.split("\n");
        for (int i = 0; i < lines.length; i++) {
            if (lines[i].matches(" {4}( {4})?[^ /*].*\\) \\{")) {
                begun = i;
            }
            if (lines[i].matches(" {4}( {4})?\\}")) {
                must(i - begun <= MOST_LINES, "a method of " + (i - begun) + " lines at line " + begun);
                begun = i;
            }
        }
    }
}
