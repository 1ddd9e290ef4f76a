import java.io.IOException;
import java.lang.reflect.Field;
import java.lang.reflect.Method;
import java.lang.reflect.Modifier;
import java.nio.file.Files;
import java.nio.file.Path;
import java.util.ArrayList;
import java.util.HashSet;
import java.util.List;
import java.util.Set;
import java.util.TreeSet;
import java.util.regex.Matcher;
import java.util.regex.Pattern;

/** What of LANGUAGE.md can be seen from the file and from the class: the face, words, sizes. */
public final class LanguageTest {
    private static final String FACE = "feed/5 end/1 family/0 fault/1 person/2 hair/0 day/0 ease/2 take/2 tell/2 "
            + "forget/2 pluck/0 dye/0 undo/0 redo/0 will/1 cares/2 next/0 spare/3 easing/1 hush/1 knows/2 wed/0 "
            + "nights/2 returns/1 rank/0 words/0 peace/0 burden/1 calm/0 law/1 odds/2 duel/2 path/1 silence/2 "
            + "alone/0 heaviest/0 lies/1 seen/3 untell/1 later/1 fits/1 sure/2 ask/2 image/1 back/1 about/1";
    private static final int LONGEST_METHOD = 60;
    private static final int MOST_FIELDS = 20;
    private static final int MOST_CLASSES = 12;
    private static final int MOST_PARAMETERS = 7;
    private static int wrong = 0;

    public static void main(String[] args) throws IOException {
        face();
        insideClasses();
        String source = Files.readString(Path.of("src/main/java/GreyHair.java"));
        words(source);
        sizes(source);
        System.out.println(wrong == 0 ? "the file keeps to the rules that are looked at" : wrong + " rules are broken");
        System.exit(wrong == 0 ? 0 : 1);
    }

    private static void need(boolean holds, String what) {
        if (!holds) {
            wrong++;
            System.out.println("broken: " + what);
        }
    }

    private static void face() {
        Set<String> wanted = new TreeSet<>(List.of(FACE.split(" ")));
        Set<String> there = new TreeSet<>();
        for (Method m : GreyHair.class.getDeclaredMethods()) {
            if (Modifier.isPublic(m.getModifiers())) {
                there.add(m.getName() + "/" + m.getParameterCount());
            } else {
                need(Modifier.isPrivate(m.getModifiers()), "1: " + m.getName() + " can be seen");
            }
        }
        need(wanted.equals(there), "1: the face is " + there);
        for (Field f : GreyHair.class.getDeclaredFields()) {
            boolean isNone = f.getName().equals("NONE") && Modifier.isPublic(f.getModifiers());
            need(isNone || Modifier.isPrivate(f.getModifiers()), "1: " + f.getName() + " can be seen");
        }
        need(Modifier.isFinal(GreyHair.class.getModifiers()), "1: the class is not final");
        need(GreyHair.class.getConstructors().length == 1, "1: there is more than one constructor");
    }

    private static void insideClasses() {
        Set<String> publicNames = new HashSet<>();
        for (String name : FACE.split(" ")) {
            publicNames.add(name.substring(0, name.indexOf('/')));
        }
        List<Class<?>> all = new ArrayList<>(List.of(GreyHair.class.getDeclaredClasses()));
        for (Class<?> c : all) {
            need(Modifier.isStatic(c.getModifiers()), "2: " + c + " is not static");
            for (Method m : c.getDeclaredMethods()) {
                need(!publicNames.contains(m.getName()), "1: " + c + " has a method " + m.getName());
            }
        }
        all.add(GreyHair.class);
        need(all.size() <= MOST_CLASSES, "11: " + all.size() + " classes");
        for (Class<?> c : all) {
            int fields = 0;
            for (Field f : c.getDeclaredFields()) {
                boolean isStatic = Modifier.isStatic(f.getModifiers());
                need(!isStatic || Modifier.isFinal(f.getModifiers()), "5: " + f + " is not final");
                fields += isStatic ? 0 : 1;
            }
            need(fields <= MOST_FIELDS, "11: " + c + " has " + fields + " fields");
            for (Method m : c.getDeclaredMethods()) {
                need(m.getParameterCount() <= MOST_PARAMETERS, "11: " + m + " takes too many parameters");
            }
        }
    }

    private static String bare(String source) {
        return source.replaceAll("(?s)/\\*.*?\\*/", "").replaceAll("//[^\n]*", "")
                .replaceAll("\"[^\"\n]*\"", "\"\"").replaceAll("'[^'\n]*'", "' '");
    }

    private static void words(String source) {
        String bare = bare(source);
        String[] never = {"throw", "throws", "try", "catch", "synchronized", "assert", "import", "package", "volatile",
            "native", "transient", "Object", "Random", "Thread", "Exception", "System", "strictfp", "var", "yield"};
        for (String word : never) {
            need(!Pattern.compile("\\b" + word + "\\b").matcher(bare).find(), "3, 4, 6: " + word);
        }
        need(!bare.contains("->") && !bare.contains("::"), "2: a lambda or a method reference");
        need(!bare.contains("@"), "an annotation");
        for (int i = 0; i < source.length(); i++) {
            need(source.charAt(i) < 128, "4: a sign above 127");
        }
        Matcher library = Pattern.compile("\\b(Math|Integer|Long|Arrays|String)\\.(\\w+)").matcher(bare);
        Set<String> allowed = Set.of("Math.max", "Math.min", "Integer.bitCount");
        while (library.find()) {
            need(allowed.contains(library.group()), "4: " + library.group());
        }
    }

    private static void sizes(String source) {
        String[] lines = source.split("\n");
        String head = "";
        int start = -1;
        for (int i = 0; i < lines.length; i++) {
            String line = lines[i];
            if (line.matches("^(    |        )[a-zA-Z].*\\) \\{$")) {
                head = line;
                start = i;
            } else if (start >= 0 && line.matches("^(    |        )\\}$")) {
                boolean same = line.indexOf('}') == head.length() - head.stripLeading().length();
                if (same) {
                    need(i - start + 1 <= LONGEST_METHOD, "11: " + head.strip() + " is too long");
                    start = -1;
                }
            }
        }
    }
}
