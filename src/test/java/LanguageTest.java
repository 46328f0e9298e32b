import java.io.IOException;
import java.lang.reflect.Constructor;
import java.lang.reflect.Field;
import java.lang.reflect.Method;
import java.lang.reflect.Modifier;
import java.nio.file.Files;
import java.nio.file.Path;
import java.util.ArrayList;
import java.util.Arrays;
import java.util.List;
import java.util.Set;
import java.util.TreeSet;
import java.util.regex.Matcher;
import java.util.regex.Pattern;

/** What can be seen of ../shared/LANGUAGE.md from the class and its text, by the rule's number. */
public final class LanguageTest {
    private static final String FACE = "back call calls cast cell clear count cow deaf dogs drawn drive ear end fault feed "
            + "fog force gap guard hoof hymn image law lead left likely lost note of order put recast row rung slips "
            + "sold status unlawful who wind would";
    private static int wrong;

    private static void rule(int number, boolean kept, String what) {
        if (!kept) {
            wrong++;
            System.out.println("rule " + number + ": " + what);
        }
    }

    private static Set<String> faceNames() {
        return new TreeSet<>(Arrays.asList(FACE.split(" ")));
    }

    private static void face() {
        rule(1, Modifier.isFinal(BellHerd.class.getModifiers()), "the class is final");
        Set<String> open = new TreeSet<>();
        for (Method m : BellHerd.class.getDeclaredMethods()) {
            if (m.isSynthetic()) {
                continue;
            }
            if (Modifier.isPublic(m.getModifiers())) {
                rule(1, open.add(m.getName()), m + " is there twice");
                rule(1, m.getReturnType() == int.class, m + " answers an int");
            } else {
                rule(1, Modifier.isPrivate(m.getModifiers()), m + " is not private");
            }
        }
        rule(1, open.equals(faceNames()), "the face is " + open);
        for (Constructor<?> c : BellHerd.class.getDeclaredConstructors()) {
            rule(1, Modifier.isPublic(c.getModifiers()) && c.getParameterCount() == 0, c + " is of the face");
        }
        for (Field f : BellHerd.class.getDeclaredFields()) {
            rule(1, Modifier.isPrivate(f.getModifiers()) || f.getName().equals("NONE"), f + " is not private");
        }
    }

    /** The document's face, line by line: each stands in the class, and nothing else is public in it. */
    private static void faceOfDocument(Path project) throws IOException {
        String document = Files.readString(project.resolve("../shared/DOC.md"));
        Matcher block = Pattern.compile("```java\n(.*?)```", Pattern.DOTALL).matcher(document);
        rule(1, block.find(), "the document has no face");
        Set<String> asked = new TreeSet<>();
        Matcher line = Pattern.compile("    public int (\\w+)\\((.*)\\);").matcher(block.group(1));
        while (line.find()) {
            asked.add(line.group(1) + " " + (line.group(2).isEmpty() ? 0 : line.group(2).split(",").length));
        }
        Set<String> has = new TreeSet<>();
        for (Method m : BellHerd.class.getDeclaredMethods()) {
            if (Modifier.isPublic(m.getModifiers())) {
                has.add(m.getName() + " " + m.getParameterCount());
                for (Class<?> taken : m.getParameterTypes()) {
                    rule(1, taken == int.class, m + " takes an int");
                }
            }
        }
        rule(1, asked.size() == 42 && asked.equals(has), "the document asks for " + asked + ", there is " + has);
        rule(1, BellHerd.NONE == -1, "NONE is " + BellHerd.NONE);
    }

    private static void calls(Path file) throws IOException {
        SourceCalls calls = SourceCalls.of(file);
        Pattern fine = Pattern.compile("java\\.lang\\.(Math|Integer|Long)\\.(compare|max|min|abs|bitCount|floorDiv|floorMod)"
                + "|java\\.lang\\.String\\.(length|charAt|isEmpty|equals|indexOf|substring|toCharArray)"
                + "|java\\.lang\\.System\\.arraycopy|java\\.util\\.Arrays\\.(copyOf|copyOfRange|fill)");
        for (String used : calls.library) {
            rule(4, fine.matcher(used).matches(), used + " is not listed");
        }
        rule(4, calls.library.contains("java.lang.System.arraycopy"), "the calls of the library are not seen");
        int recursive = 0;
        for (String method : calls.own.keySet()) {
            rule(11, calls.depth(method) <= 8, method + " goes " + calls.depth(method) + " deep");
            recursive += calls.isRecursive(method) ? 1 : 0;
        }
        rule(8, recursive == 9, recursive + " methods call themselves, not the eight of Reader and giveFrom alone");
    }

    private static void insides() {
        List<Class<?>> all = new ArrayList<>(Arrays.asList(BellHerd.class.getDeclaredClasses()));
        rule(11, all.size() < 12, "there are " + all.size() + " classes inside");
        for (Class<?> c : all) {
            rule(2, Modifier.isStatic(c.getModifiers()), c + " is static");
            for (Method m : c.getDeclaredMethods()) {
                rule(1, !faceNames().contains(m.getName()), m + " bears the name of a public one");
            }
        }
        all.add(BellHerd.class);
        for (Class<?> c : all) {
            int own = 0;
            for (Field f : c.getDeclaredFields()) {
                if (Modifier.isStatic(f.getModifiers())) {
                    boolean fine = List.of(int.class, long.class, boolean.class, char.class, String.class, int[].class,
                            long[].class, char[].class, byte[].class).contains(f.getType());
                    rule(5, fine && Modifier.isFinal(f.getModifiers()), f + " is no constant");
                } else {
                    own++;
                }
            }
            rule(11, own <= 20, c + " has " + own + " fields");
            for (Method m : c.getDeclaredMethods()) {
                rule(11, m.getParameterCount() <= 7, m + " takes too many parameters");
            }
        }
    }

    private static void text(Path file) throws IOException {
        String source = Files.readString(file);
        for (char sign : source.toCharArray()) {
            rule(4, sign < 128, "a sign beyond 127: " + (int) sign);
        }
        String bare = source.replaceAll("(?s)/\\*.*?\\*/", "").replaceAll("//[^\n]*", "");
        rule(1, !bare.contains("package "), "there is no package line");
        for (String word : new String[] {"throw", "try", "catch", "finally", "synchronized", "assert", "volatile",
            "native", "strictfp", "var", "yield", "sealed", "Object", "Exception", "Thread", "float", "double"}) {
            rule(6, !Pattern.compile("\\b" + word + "\\b").matcher(bare).find(), "the word " + word);
        }
        rule(2, !bare.contains("->") && !bare.contains("::"), "a lambda or a method reference");
        rule(4, !bare.contains("Exact("), "a function that may throw");
        Matcher used = Pattern.compile("import ([^;]*);").matcher(bare);
        while (used.find()) {
            rule(4, used.group(1).equals("java.util.Arrays"), "import " + used.group(1));
        }
        shortMethods(source.split("\n"));
    }

    private static void shortMethods(String[] lines) {
        for (int i = 0; i < lines.length; i++) {
            rule(11, lines[i].length() <= 125, "line " + (i + 1) + " is long");
            Matcher begin = Pattern.compile("^( {4}| {8})[a-z][^;=]*\\) \\{$").matcher(lines[i]);
            if (begin.matches()) {
                int end = i;
                while (end < lines.length && !lines[end].equals(begin.group(1) + "}")) {
                    end++;
                }
                rule(11, end - i < 60, "the method of line " + (i + 1) + " is long");
            }
        }
    }

    public static void main(String[] args) throws IOException {
        Path project = Path.of(System.getProperty("project", "."));
        Path file = project.resolve("src/main/java/BellHerd.java");
        face();
        faceOfDocument(project);
        insides();
        text(file);
        calls(file);
        System.out.println(wrong == 0 ? "the language is kept to" : wrong + " rules are broken");
        if (wrong != 0) {
            System.exit(1);
        }
    }
}
