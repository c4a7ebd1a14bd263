import java.lang.reflect.Constructor;
import java.lang.reflect.Field;
import java.lang.reflect.Method;
import java.lang.reflect.Modifier;
import java.nio.file.Files;
import java.nio.file.Path;
import java.util.Set;
import java.util.TreeSet;
import java.util.regex.Matcher;
import java.util.regex.Pattern;

/** The face of the document, and those rules of LANGUAGE.md that can be looked up. Runs in the project's folder. */
final class LanguageTest {
    private static final Due due = new Due("LanguageTest");
    private static final String[] FACE = {"int zone(int,int,int)", "int shelter(int)", "int road(int,int,int,int)",
        "int use(int)", "int turn(int)", "int bus(int,int,int,int)", "int zoneTold(int,int)", "int shelterTold(int,int)",
        "int roadTold(int,int)", "int busTold(int,int)", "int end(int)", "int likely(int,int)", "int truth(int)",
        "int news(int,int,int,int,int)", "int known(int,int,int,int)", "int feed(int,long)", "int text()", "int force(int)",
        "long says(int,int)", "int call(int)", "int good(int)", "int pass(int)", "int inWater()", "long foresee(int,long)",
        "long best(int)", "int bestCall(int)", "int count(int)", "int sheet(int,int,int)", "int cell(int,int,int)",
        "int copy(int,int,int,int,int)", "int newsRow(int,int,int,int,int)", "int taken(int,int)"};

    public static void main(String[] args) throws Exception {
        face();
        for (Class<?> inside : FloodCity.class.getDeclaredClasses()) {
            inside(inside);
        }
        due.holds("at most twelve classes", FloodCity.class.getDeclaredClasses().length <= 11);
        source(Files.readString(Path.of("src/main/java/FloodCity.java")));
        due.end();
    }

    private static void face() {
        Set<String> methods = new TreeSet<>();
        Set<String> publicNames = new TreeSet<>();
        for (Method m : FloodCity.class.getDeclaredMethods()) {
            if (!Modifier.isPrivate(m.getModifiers())) {
                methods.add(m.toString().replaceAll(".*public (final )?(static )?", "").replace("FloodCity.", ""));
                publicNames.add(m.getName());
                due.holds(m + " is public and no static one", m.getModifiers() == Modifier.PUBLIC);
            }
        }
        due.holds("the methods are " + methods, methods.equals(new TreeSet<>(java.util.List.of(FACE))));
        for (Method m : FloodCity.class.getDeclaredMethods()) {
            boolean isPrivate = Modifier.isPrivate(m.getModifiers());
            due.holds(m + " bears no public name", !isPrivate || !publicNames.contains(m.getName()));
        }
        Constructor<?>[] constructors = FloodCity.class.getDeclaredConstructors();
        due.holds("one public constructor", constructors.length == 1 && constructors[0].getParameterCount() == 0
            && Modifier.isPublic(constructors[0].getModifiers()));
        due.holds("public and final", FloodCity.class.getModifiers() == (Modifier.PUBLIC | Modifier.FINAL));
        Set<String> constants = new TreeSet<>();
        for (Field f : FloodCity.class.getDeclaredFields()) {
            if (!Modifier.isPrivate(f.getModifiers())) {
                constants.add(Modifier.toString(f.getModifiers()) + " " + f.getType() + " " + f.getName());
            }
        }
        due.holds("the constants are " + constants, constants.equals(Set.of("public static final int NONE",
            "public static final int BAD", "public static final int STATE", "public static final int FULL",
            "public static final long NO")));
        inside(FloodCity.class);
    }

    private static void inside(Class<?> c) {
        due.holds(c + " is final", Modifier.isFinal(c.getModifiers()));
        due.holds(c + " is static", c == FloodCity.class || Modifier.isStatic(c.getModifiers()));
        int fields = 0;
        for (Field f : c.getDeclaredFields()) {
            boolean isStatic = Modifier.isStatic(f.getModifiers());
            due.holds(f + " is final, if static", !isStatic || Modifier.isFinal(f.getModifiers()));
            fields += isStatic ? 0 : 1;
        }
        due.holds(c + " has at most twenty fields", fields <= 20);
        for (Method m : c.getDeclaredMethods()) {
            due.holds(m + " has at most seven parameters", m.getParameterCount() <= 7);
        }
    }

    private static void source(String source) {
        String code = source.replaceAll("(?s)/\\*.*?\\*/", "").replaceAll("//[^\n]*", "").replaceAll("\"[^\"\n]*\"", "\"\"");
        String[] words = {"throw", "throws", "try", "catch", "finally", "synchronized", "assert", "System\\.(?!arraycopy)\\w+",
            "package", "->", "::", "Random", "Thread", "hashCode", "toString", "Exact\\b", "double", "float"};
        for (String word : words) {
            String bound = Character.isLetter(word.charAt(0)) ? "\\b" : "";
            due.holds("the source is without " + word, !Pattern.compile(bound + word + bound).matcher(code).find());
        }
        Matcher imports = Pattern.compile("import ([^;]*);").matcher(code);
        while (imports.find()) {
            due.holds("import of " + imports.group(1), imports.group(1).equals("java.util.Arrays"));
        }
        due.holds("signs of the source are plain", source.chars().allMatch(sign -> sign == '\n' || sign >= 32 && sign < 127));
        methodsAreShort(source.split("\n"));
    }

    private static void methodsAreShort(String[] lines) {
        Pattern head = Pattern.compile("^( {4}| {8})[a-zA-Z][\\w\\[\\] ]*\\(.*\\{$");
        int begin = -1;
        String indent = "";
        for (int i = 0; i < lines.length; i++) {
            Matcher m = head.matcher(lines[i]);
            if (begin < 0 && m.matches()) {
                begin = i;
                indent = m.group(1);
            } else if (begin >= 0 && lines[i].equals(indent + "}")) {
                due.holds("at most sixty lines: " + lines[begin].trim(), i - begin < 60);
                begin = -1;
            }
        }
        due.holds("every method ends", begin < 0);
    }
}
