import java.lang.reflect.Method;
import java.lang.reflect.Modifier;
import java.nio.file.Files;
import java.nio.file.Path;
import java.util.ArrayList;
import java.util.Arrays;
import java.util.HashSet;
import java.util.List;
import java.util.Set;
import java.util.TreeSet;
import java.util.regex.Matcher;
import java.util.regex.Pattern;

/** The face of the class, and those rules of LANGUAGE.md that can be looked at from outside. */
public final class KeptRules {
    private static final Check CHECK = new Check("KeptRules");
    private static final String FACE = """
        int feed(int,int,int,int,int)
        int back(int)
        int read()
        int place()
        int house(int,int)
        int come(int,int,boolean)
        boolean join(int,int)
        boolean die(int)
        int person(int,int)
        int family(int,int)
        boolean live(int,int)
        boolean love(int,int)
        int months(int)
        int unlawful(int)
        int pair(int)
        int row(int)
        int least(int,int)
        int leastAt(int,int)
        int settle(int)
        int steps(int)
        int mean()
        int where(boolean)
        int gap()
        int part(int)
        int move(int,int,int)
        int forget()
        int judge()
        int done()
        int worth(int,int)
        int change(int)
        long waits(int,int)
        int marry(int,int,boolean)
        int years(int,int,int)
        boolean hold(int)
        boolean restore(int)
        int count(int)
        """;
    private static final String[] RULED_OUT = {"throw", "throws", "try", "catch", "synchronized", "assert", "->", "::",
        "protected", "package", "System\\.out", "Exact", "Random", "Thread", "nanoTime", "hashCode", "toString"};

    public static void main(String[] args) throws Exception {
        face();
        membersInside();
        source();
        nothingMadeByCalls();
        CHECK.end();
    }

    private static void face() {
        Set<String> due = new TreeSet<>(Arrays.asList(FACE.strip().split("\\s*\n\\s*")));
        Set<String> got = new TreeSet<>();
        Set<String> names = new HashSet<>();
        for (Method m : AgeHill.class.getDeclaredMethods()) {
            if (Modifier.isPrivate(m.getModifiers())) {
                continue;
            }
            List<String> types = new ArrayList<>();
            for (Class<?> t : m.getParameterTypes()) {
                types.add(t.getName());
            }
            got.add(m.getReturnType() + " " + m.getName() + "(" + String.join(",", types) + ")");
            names.add(m.getName());
            CHECK.due(m.getName() + " is public and not static", m.getModifiers(), Modifier.PUBLIC);
        }
        CHECK.due("the methods " + got, got.equals(due), true);
        CHECK.due("constructors", AgeHill.class.getDeclaredConstructors().length, 1);
        CHECK.due("public fields", AgeHill.class.getFields().length, 1);
        CHECK.due("final class", AgeHill.class.getModifiers(), Modifier.PUBLIC | Modifier.FINAL);
        for (var f : AgeHill.class.getDeclaredFields()) {
            CHECK.due(f.getName() + " is private", Modifier.isPrivate(f.getModifiers()) || f.getName().equals("NONE"), true);
        }
        for (Class<?> inside : allClasses()) {
            for (Method m : inside.getDeclaredMethods()) {
                boolean privateNamesake = names.contains(m.getName()) && !Modifier.isPublic(m.getModifiers());
                CHECK.due(inside + " has a method named " + m.getName(), privateNamesake, false);
            }
        }
    }

    private static List<Class<?>> allClasses() {
        List<Class<?>> all = new ArrayList<>(List.of(AgeHill.class.getDeclaredClasses()));
        all.add(AgeHill.class);
        return all;
    }

    private static void membersInside() {
        CHECK.due("at most twelve classes", allClasses().size() <= 12, true);
        for (Class<?> c : allClasses()) {
            int fields = 0;
            for (var f : c.getDeclaredFields()) {
                boolean constant = Modifier.isStatic(f.getModifiers());
                fields += constant ? 0 : 1;
                CHECK.due(c + "'s " + f.getName() + " is final if static", !constant || Modifier.isFinal(f.getModifiers()), true);
            }
            CHECK.due(c + " has at most twenty fields", fields <= 20, true);
            for (Method m : c.getDeclaredMethods()) {
                CHECK.due(m + " has at most seven parameters", m.getParameterCount() <= 7, true);
            }
            if (c != AgeHill.class) {
                CHECK.due(c + " is static", Modifier.isStatic(c.getModifiers()), true);
                CHECK.due(c + " is not public", Modifier.isPublic(c.getModifiers()), false);
            }
        }
    }

    private static void source() throws Exception {
        String text = Files.readString(Path.of("src/main/java/AgeHill.java"));
        String bare = text.replaceAll("(?s)/\\*.*?\\*/", "").replaceAll("//[^\n]*", "").replaceAll("\"[^\"\n]*\"", "\"\"");
        for (String word : RULED_OUT) {
            String found = word.matches("\\w+") && !word.equals("Exact") ? "\\b" + word + "\\b" : word;
            CHECK.due("the source has " + word, Pattern.compile(found).matcher(bare).find(), false);
        }
        Matcher imports = Pattern.compile("(?m)^import (.*);").matcher(bare);
        while (imports.find()) {
            CHECK.due("import " + imports.group(1), imports.group(1).equals("java.util.Arrays"), true);
        }
        CHECK.due("signs of 1 to 126 alone", text.chars().allMatch(c -> c == '\n' || c >= 32 && c < 127), true);
        Matcher method = Pattern.compile("(?ms)^(    |        )(?! )[^\n]*\\) \\{\n(.*?)^\\1\\}$").matcher(bare);
        while (method.find()) {
            int lines = method.group(2).split("\n").length;
            CHECK.due("a method is short: " + method.group().lines().findFirst().get(), lines <= 60, true);
        }
    }

    /** All that a run needs is made by the constructor: this call's twin must not make more. */
    private static void nothingMadeByCalls() throws Exception {
        String text = Files.readString(Path.of("src/main/java/AgeHill.java"));
        Matcher made = Pattern.compile("(?m)^(.*)\\bnew\\b.*$").matcher(text.replaceAll("//[^\n]*|/\\*\\*[^\n]*", ""));
        while (made.find()) {
            String line = made.group();
            boolean field = line.matches("\\s*(private )?(final )?[\\w\\[\\]]+ \\w+ = new .*;");
            boolean constructor = line.matches("        (    )?(slots\\[i\\]|\\w+) = new \\w+\\(.*\\);");
            CHECK.due("made outside of a constructor: " + line.strip(), field || constructor, true);
        }
    }
}
