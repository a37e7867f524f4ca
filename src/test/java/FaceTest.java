import java.io.IOException;
import java.lang.reflect.Constructor;
import java.lang.reflect.Field;
import java.lang.reflect.Method;
import java.lang.reflect.Modifier;
import java.nio.file.Files;
import java.nio.file.Path;
import java.util.Set;
import java.util.TreeSet;
import java.util.regex.Matcher;
import java.util.regex.Pattern;

/** The class's face, and those rules of LANGUAGE.md that can be read off the text. */
final class FaceTest {
    private static final Path SOURCE = Path.of("src/main/java/OneLevelStore.java");
    private static final Set<String> FACE = Set.of("int key(long)", "int load(int,int)", "int tape(int)",
        "boolean start(int,int,int,int)", "int run(int)", "int job(int,int)", "int register(int,int)",
        "long accumulator(int)", "long word(int,int)", "long paper(int,int)", "int frame(int,int)",
        "int place(int,int)", "int drum(int)", "int queued(int)", "int chosen(int)", "long printed(int)",
        "int clock(int)", "boolean forget(int)");
    private static final Pattern FORBIDDEN = Pattern.compile("\\b(throw|throws|try|catch|synchronized|assert"
        + "|protected|package|volatile|native|double|float|\\w+Exact)\\b|->|::");
    private static final Pattern LIBRARY = Pattern.compile("\\b(?:Arrays|Math|Integer|Long|System)\\.\\w+");
    private static final Set<String> LIBRARY_USED = Set.of("Arrays.fill", "Math.max", "Math.min", "Long.bitCount");
    private static final int MOST_LINES = 60;
    private static final int MOST_PARAMETERS = 7;
    private static final int MOST_CLASSES = 12;
    private static final int MOST_FIELDS = 20;
    private static final Due DUE = new Due();

    public static void main(String[] args) throws IOException {
        members();
        classes();
        String text = Files.readString(SOURCE);
        words(text);
        methodLengths(text);
        DUE.end();
    }

    private static String told(Method method) {
        StringBuilder text = new StringBuilder(method.getReturnType() + " " + method.getName() + "(");
        for (Class<?> type : method.getParameterTypes()) {
            text.append(text.charAt(text.length() - 1) == '(' ? "" : ",").append(type);
        }
        return text.append(")").toString();
    }

    private static void members() {
        int modifiers = OneLevelStore.class.getModifiers();
        DUE.yes("public and final", Modifier.isPublic(modifiers) && Modifier.isFinal(modifiers));
        Set<String> open = new TreeSet<>();
        for (Method method : OneLevelStore.class.getDeclaredMethods()) {
            if (Modifier.isPublic(method.getModifiers())) {
                open.add(told(method));
            } else if (!method.isSynthetic()) {
                DUE.yes(method + " is private", Modifier.isPrivate(method.getModifiers()));
                DUE.no(method + " bears a public name", publicNames().contains(method.getName()));
            }
        }
        DUE.yes("the methods of the face: " + open, open.equals(FACE));
        for (Field field : OneLevelStore.class.getDeclaredFields()) {
            boolean told = field.getName().equals("NONE") && Modifier.isPublic(field.getModifiers());
            DUE.yes(field + " is private", told || Modifier.isPrivate(field.getModifiers()));
        }
        Constructor<?>[] made = OneLevelStore.class.getDeclaredConstructors();
        DUE.is("constructors", made.length, 1);
        DUE.yes("of an int", made[0].toString().equals("public OneLevelStore(int)"));
    }

    private static Set<String> publicNames() {
        Set<String> names = new TreeSet<>();
        for (Method method : OneLevelStore.class.getMethods()) {
            names.add(method.getName());
        }
        return names;
    }

    private static void classes() {
        Class<?>[] inside = OneLevelStore.class.getDeclaredClasses();
        DUE.yes("few classes", inside.length < MOST_CLASSES);
        fields(OneLevelStore.class);
        for (Class<?> type : inside) {
            DUE.yes(type + " is static", Modifier.isStatic(type.getModifiers()));
            fields(type);
            for (Method method : type.getDeclaredMethods()) {
                DUE.no(method + " bears a public name", publicNames().contains(method.getName()));
                DUE.yes(method + " takes few", method.getParameterCount() <= MOST_PARAMETERS);
            }
        }
    }

    private static void fields(Class<?> type) {
        int count = 0;
        for (Field field : type.getDeclaredFields()) {
            if (Modifier.isStatic(field.getModifiers())) {
                DUE.yes(field + " is final", Modifier.isFinal(field.getModifiers()));
            } else {
                count++;
            }
        }
        DUE.yes(type + " has few fields", count <= MOST_FIELDS);
    }

    private static void words(String text) {
        String bare = text.replaceAll("(?s)/\\*.*?\\*/", "").replaceAll("//[^\n]*", "");
        Matcher matcher = FORBIDDEN.matcher(bare);
        while (matcher.find()) {
            DUE.no("the text has " + matcher.group(), true);
        }
        Matcher library = LIBRARY.matcher(bare);
        while (library.find()) {
            DUE.yes(library.group() + " is one of " + LIBRARY_USED, LIBRARY_USED.contains(library.group()));
        }
        DUE.is("imports", bare.split("\nimport |^import ").length - 1, 1);
        DUE.yes("of Arrays alone", bare.contains("import java.util.Arrays;"));
    }

    private static void methodLengths(String text) {
        String[] lines = text.split("\n");
        int begun = 0;
        for (int i = 0; i < lines.length; i++) {
            String line = lines[i].stripTrailing();
            if (line.matches("( {4}| {8})\\S.*\\) \\{")) {
                begun = i;
            }
            if (line.matches(" {4}\\}| {8}\\}") && begun > 0) {
                DUE.yes("the method at line " + (begun + 1) + " is short", i - begun < MOST_LINES
                    || lines[begun].contains("class "));
                begun = 0;
            }
        }
    }
}
