import java.io.IOException;
import java.lang.reflect.Field;
import java.lang.reflect.Method;
import java.lang.reflect.Modifier;
import java.nio.file.Files;
import java.nio.file.Path;
import java.util.Arrays;
import java.util.TreeSet;
import java.util.regex.Matcher;
import java.util.regex.Pattern;

/** The face of the document, and what of ../shared/LANGUAGE.md can be seen from outside; run from the project's root. */
public final class LanguageRules {
    private static final String[] FACE = {"int shop(int,int,int,int)", "int next(int,int,boolean)", "int free(int,boolean)", "int put(int,int)",
        "int price(int,int)", "int type(long,int)", "int clear()", "int read()", "int errand(int)", "int cheapest(int,int)", "int row(int,int)",
        "int soonest(int)", "int worth(int,int)", "int shutOut(int)", "int mends(int)", "int buyer(int,int)", "int leave()", "int takes(int)",
        "int asks(int)", "int changes(int)", "int wanted(int)", "int image(int)", "int from(int)", "int status(int)", "int count(int)", "long digest()"};
    private static final String[] RULED_OUT = {"\\bthrow\\b", "\\btry\\b", "\\bcatch\\b", "\\bfinally\\b", "\\bsynchronized\\b", "\\bassert\\b",
        "->", "::", "static \\{", "\\bpackage\\b", "\\bimport\\b", "\\w+Exact\\b", "\\bSystem\\.(?!arraycopy\\b)", "\\bString\\.", "\\bThread\\b",
        "\\bRandom\\b", "\\bhashCode\\b", "\\btoString\\b"};
    private static final int LONGEST_METHOD = 60, MOST_PARAMETERS = 7, MOST_CLASSES = 12, MOST_FIELDS = 20;

    private static int wrong = 0;

    public static void main(String[] args) throws IOException {
        face();
        Class<?>[] inside = NextDoor.class.getDeclaredClasses();
        must(inside.length + 1 <= MOST_CLASSES, "few classes");
        for (Class<?> c : inside) {
            must(Modifier.isStatic(c.getModifiers()), c + " is static");
            size(c);
        }
        size(NextDoor.class);
        source(Files.readString(Path.of("src/main/java/NextDoor.java")));
        System.out.println(wrong == 0 ? "the rules are kept" : wrong + " rules are not kept");
        if (wrong != 0) {
            System.exit(1);
        }
    }

    private static void must(boolean is, String what) {
        if (!is) {
            wrong++;
            System.out.println("not so: " + what);
        }
    }

    private static String told(Method m) {
        StringBuilder text = new StringBuilder(m.getReturnType() + " " + m.getName() + "(");
        for (Class<?> type : m.getParameterTypes()) {
            text.append(text.charAt(text.length() - 1) == '(' ? "" : ",").append(type);
        }
        return text.append(")").toString();
    }

    private static void face() {
        TreeSet<String> shown = new TreeSet<>();
        TreeSet<String> names = new TreeSet<>();
        for (Method m : NextDoor.class.getDeclaredMethods()) {
            if (Modifier.isPublic(m.getModifiers())) {
                shown.add(told(m));
                names.add(m.getName());
            }
        }
        must(shown.equals(new TreeSet<>(Arrays.asList(FACE))), "the methods are those of the document: " + shown);
        for (Method m : NextDoor.class.getDeclaredMethods()) {
            boolean isPublic = Modifier.isPublic(m.getModifiers());
            must(isPublic || Modifier.isPrivate(m.getModifiers()), m + " is public or private");
            must(isPublic || !names.contains(m.getName()), m + " has a name of its own");
        }
        TreeSet<String> constants = new TreeSet<>();
        for (Field f : NextDoor.class.getDeclaredFields()) {
            if (Modifier.isPublic(f.getModifiers())) {
                constants.add(f.getName());
                must(Modifier.isStatic(f.getModifiers()) && Modifier.isFinal(f.getModifiers()) && f.getType() == int.class, f + " is a constant");
            } else {
                must(Modifier.isPrivate(f.getModifiers()), f + " is private");
            }
        }
        must(constants.equals(new TreeSet<>(Arrays.asList("NONE", "BAD", "NO", "FULL"))), "the constants are those of the document: " + constants);
        must(NextDoor.class.getConstructors().length == 1 && NextDoor.class.getDeclaredConstructors().length == 1, "one constructor, public");
        must(Modifier.isFinal(NextDoor.class.getModifiers()) && Modifier.isPublic(NextDoor.class.getModifiers()), "public and final");
    }

    private static void size(Class<?> c) {
        int fields = 0;
        for (Field f : c.getDeclaredFields()) {
            boolean isStatic = Modifier.isStatic(f.getModifiers());
            fields += isStatic ? 0 : 1;
            must(!isStatic || Modifier.isFinal(f.getModifiers()), f + " is final, being static");
        }
        must(fields <= MOST_FIELDS, c + " has few fields");
        for (Method m : c.getDeclaredMethods()) {
            must(m.getParameterCount() <= MOST_PARAMETERS, m + " has few parameters");
        }
    }

    private static void source(String text) {
        String code = text.replaceAll("(?s)/\\*.*?\\*/", "").replaceAll("//[^\n]*", "");
        for (String rule : RULED_OUT) {
            Matcher found = Pattern.compile(rule).matcher(code);
            must(!found.find(), rule + " does not stand in the code");
        }
        int begun = 0;
        int at = 0;
        for (String line : text.split("\n")) {
            at++;
            if (line.matches(" {4}( {4})?[\\w\\[\\] ]+\\(.*\\) \\{")) {
                begun = at;
            } else if (line.matches(" {4}( {4})?\\}")) {
                must(begun == 0 || at - begun < LONGEST_METHOD, "the method that ends in row " + at + " is short");
                begun = 0;
            }
        }
    }
}
