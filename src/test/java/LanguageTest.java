import java.io.IOException;
import java.lang.reflect.Constructor;
import java.lang.reflect.Field;
import java.lang.reflect.Method;
import java.lang.reflect.Modifier;
import java.nio.file.Files;
import java.nio.file.Path;
import java.util.ArrayList;
import java.util.List;
import java.util.Set;
import java.util.TreeSet;
import java.util.regex.Matcher;
import java.util.regex.Pattern;

/** The rules of LANGUAGE.md that can be seen from the text and from the compiled class. Its argument: the source file. */
public final class LanguageTest {
    private static final String[] FACE = {
        "int row(int,int,int)", "int set(int,int,long)", "int copy(int,int,int,int,int)", "long element(int,int)",
        "int show(int,int)", "int holds(int)", "int says(int,int)", "int man(int,int,int)", "int manOf(int,int)",
        "int meet(int,int,boolean)", "int say(int,int)", "int word(int)", "int court(int)", "int fault()",
        "int hears(int,int)", "int sense(int,int)", "int whole()", "int known(int,int)", "int belief(int)",
        "int together(int,int)", "int cover()", "int ask(int)", "int soon(int)", "int wrongOnes(int)", "int apart(int)",
        "int lose()", "int speak(int,int,int,int)", "int needs(int)", "int count(int,int)", "int could(int)",
        "int swap()", "int judge(int,int)", "int would(int,int,int)", "int audience(int)", "int reign(int)",
        "int seed(int)", "int act(int,int,int)", "int trace(int)", "int image()", "int restore()", "int status(int)"};
    private static final String[] NEVER = {
        "\\bthrow\\b", "\\bthrows\\b", "\\btry\\b", "\\bcatch\\b", "\\bfinally\\b", "\\bsynchronized\\b", "\\bassert\\b",
        "\\bimport\\b", "\\bpackage\\b", "\\bprotected\\b", "\\bnative\\b", "\\bvolatile\\b", "\\btransient\\b", "->", "::",
        "@", "\\bObject\\b", "\\bThread\\b", "\\bRandom\\b", "Exact\\b", "\\bSystem\\.(?!arraycopy\\b)", "\\bvar\\b",
        "\\b(equals|hashCode|toString)\\s*\\("};
    private static final int MOST_LINES = 60;

    private static int wrong = 0;

    private static void must(boolean holds, String what) {
        if (holds) return;
        wrong++;
        System.out.println("language: " + what);
    }

    public static void main(String[] args) throws IOException {
        String file = args.length > 0 ? args[0] : "src/main/java/EveryonesThirdWord.java";
        String text = Files.readString(Path.of(file)).replaceAll("(?s)/\\*.*?\\*/", "").replaceAll("//[^\n]*", "");
        words(text);
        roomIsMadeInConstructors(text);
        face();
        List<Class<?>> all = new ArrayList<>(List.of(EveryonesThirdWord.class.getDeclaredClasses()));
        must(all.size() + 1 <= 12, "more than twelve classes");
        for (Class<?> c : all) must(Modifier.isStatic(c.getModifiers()) && !Modifier.isPublic(c.getModifiers()), c + " isn't static or is public");
        all.add(EveryonesThirdWord.class);
        for (Class<?> c : all) members(c);
        System.out.println(wrong == 0 ? "language: all as due" : "language: " + wrong + " not as due");
        if (wrong != 0) System.exit(1);
    }

    private static void words(String text) {
        String bare = text.replaceAll("\"[^\"\n]*\"", "\"\"");
        for (String never : NEVER) must(!Pattern.compile(never).matcher(bare).find(), "the text has " + never);
        for (int i = 0; i < text.length(); i++) must(text.charAt(i) < 127, "a sign beyond 126 at " + i);
        int lines = 0;
        for (String line : bare.split("\n")) {
            if (line.matches(" {4}( {4})?[a-zA-Z].*\\) \\{")) lines = 0;
            lines++;
            must(lines <= MOST_LINES || !line.matches(" {4}( {4})?\\}"), "a method of " + lines + " lines");
        }
    }

    /** What a call makes stays in the one room for all calls: so no call makes anything. */
    private static void roomIsMadeInConstructors(String text) {
        Matcher made = Pattern.compile("(?m)^(.*)\\bnew\\b.*$").matcher(text);
        while (made.find()) {
            String ahead = made.group(1);
            boolean field = ahead.matches(" {8}(private )?final [\\w\\[\\]]+ \\w+ = ");
            boolean constructor = ahead.matches(" {8}\\w+ = ") || ahead.matches(" {8,12}for \\(.*\\) \\w+\\[\\w\\] = ");
            must(field || constructor, "made outside a constructor: " + made.group().trim());
        }
    }

    private static String signature(Method m) {
        StringBuilder b = new StringBuilder(m.getReturnType().getName()).append(' ').append(m.getName()).append('(');
        for (Class<?> p : m.getParameterTypes()) b.append(b.charAt(b.length() - 1) == '(' ? "" : ",").append(p.getName());
        return b.append(')').toString();
    }

    private static void face() {
        Class<?> c = EveryonesThirdWord.class;
        must(Modifier.isPublic(c.getModifiers()) && Modifier.isFinal(c.getModifiers()), "the class isn't public and final");
        Set<String> got = new TreeSet<>();
        Set<String> names = new TreeSet<>();
        for (Method m : c.getDeclaredMethods()) {
            if (!Modifier.isPublic(m.getModifiers())) continue;
            got.add(signature(m));
            names.add(m.getName());
            must(!Modifier.isStatic(m.getModifiers()), m + " is static");
        }
        must(got.equals(new TreeSet<>(Set.of(FACE))), "the face is " + got);
        for (Method m : c.getDeclaredMethods()) {
            if (Modifier.isPublic(m.getModifiers())) continue;
            must(Modifier.isPrivate(m.getModifiers()), m + " isn't private");
            must(!names.contains(m.getName()), m + " bears a public name");
        }
        for (Class<?> inside : c.getDeclaredClasses()) {
            for (Method m : inside.getDeclaredMethods()) must(!names.contains(m.getName()), m + " bears a public name");
        }
        Constructor<?>[] made = c.getDeclaredConstructors();
        must(made.length == 1 && Modifier.isPublic(made[0].getModifiers()), "the constructors");
        for (Field f : c.getDeclaredFields()) {
            must(Modifier.isPrivate(f.getModifiers()) || f.getName().equals("NONE"), f + " isn't private");
        }
    }

    private static void members(Class<?> c) {
        int fields = 0;
        for (Field f : c.getDeclaredFields()) {
            if (Modifier.isStatic(f.getModifiers())) must(Modifier.isFinal(f.getModifiers()), f + " is static and not final");
            else fields++;
        }
        must(fields <= 20, c + " has " + fields + " fields");
        for (Method m : c.getDeclaredMethods()) must(m.getParameterCount() <= 7, m + " takes too many");
    }
}
