import java.io.IOException;
import java.lang.reflect.Constructor;
import java.lang.reflect.Field;
import java.lang.reflect.Method;
import java.lang.reflect.Modifier;
import java.nio.file.Files;
import java.nio.file.Path;
import java.util.Arrays;
import java.util.Set;
import java.util.TreeSet;
import java.util.regex.Matcher;
import java.util.regex.Pattern;

/** The public face of the class, and those rules of LANGUAGE.md that can be read off its text. */
public final class FaceTests {
    private static final String[] FACE = {
        "int type(int) throws IllegalArgumentException, IllegalStateException",
        "int clearText()",
        "int addWord() throws IllegalStateException",
        "int lookUp()",
        "int setLetter(int, int, int) throws IllegalArgumentException",
        "int setPremium(int, int, int) throws IndexOutOfBoundsException, IllegalArgumentException",
        "int setRack(int) throws IndexOutOfBoundsException, IllegalStateException",
        "int setTile(int, int, int) throws IndexOutOfBoundsException, IllegalArgumentException",
        "int tileAt(int, int) throws IndexOutOfBoundsException",
        "int onRack(int, int) throws IndexOutOfBoundsException, IllegalArgumentException",
        "int score(int) throws IndexOutOfBoundsException",
        "int crossSet(int, int, int) throws IndexOutOfBoundsException, IllegalArgumentException",
        "int anchors()",
        "boolean isAnchor(int, int) throws IndexOutOfBoundsException",
        "int check(int, int, int, int) throws IndexOutOfBoundsException, IllegalArgumentException",
        "int play(int, int, int, int) throws IndexOutOfBoundsException, IllegalArgumentException,"
            + " IllegalStateException",
        "int plays(int) throws IndexOutOfBoundsException",
        "int playAt(int, int, int) throws IndexOutOfBoundsException, IllegalArgumentException",
        "int bestPlay(int) throws IndexOutOfBoundsException",
        "int playBest(int) throws IndexOutOfBoundsException, IllegalStateException",
        "int endgame(int) throws IndexOutOfBoundsException, IllegalStateException",
        "int undo() throws IllegalStateException",
        "long digest()",
    };

    private static final String[] NOT_IN_THE_LANGUAGE = {
        "import", "->", "::", "catch", "finally", "synchronized", "assert", "hashCode", "System.exit",
        "System.out", "Random", "Thread", "nanoTime", "toString", "double", "float", "lambda",
    };

    private final Checks checks = new Checks();

    public static void main(String[] arguments) throws IOException {
        FaceTests tests = new FaceTests();
        tests.methods();
        tests.otherMembers();
        tests.classesInside();
        tests.text(Path.of(arguments.length > 0 ? arguments[0]
                : "src/main/java/TileWordBoard.java"));
        tests.checks.close("FaceTests");
    }

    private static String signature(Method method) {
        StringBuilder text = new StringBuilder(method.getReturnType().getSimpleName());
        text.append(' ').append(method.getName()).append('(');
        for (Class<?> type : method.getParameterTypes()) {
            text.append(text.charAt(text.length() - 1) == '(' ? "" : ", ");
            text.append(type.getSimpleName());
        }
        text.append(')');
        String before = " throws ";
        for (Class<?> type : method.getExceptionTypes()) {
            text.append(before).append(type.getSimpleName());
            before = ", ";
        }
        return text.toString();
    }

    private void methods() {
        Set<String> got = new TreeSet<>();
        Set<String> names = new TreeSet<>();
        for (Method method : TileWordBoard.class.getDeclaredMethods()) {
            if (Modifier.isPublic(method.getModifiers())) {
                got.add(signature(method));
                names.add(method.getName());
            } else {
                checks.due(method + " is private", "true",
                        "" + Modifier.isPrivate(method.getModifiers()));
            }
            checks.due(method + " has at most seven parameters", "true",
                    "" + (method.getParameterCount() <= 7));
        }
        checks.due("the methods", new TreeSet<>(Arrays.asList(FACE)).toString(), got.toString());
        for (Class<?> inside : TileWordBoard.class.getDeclaredClasses()) {
            for (Method method : inside.getDeclaredMethods()) {
                checks.due(method + " has a name of its own", "true",
                        "" + !names.contains(method.getName()));
            }
        }
    }

    private void otherMembers() {
        int modifiers = TileWordBoard.class.getModifiers();
        checks.due("public and final", "true",
                "" + (Modifier.isPublic(modifiers) && Modifier.isFinal(modifiers)));
        Constructor<?>[] constructors = TileWordBoard.class.getDeclaredConstructors();
        checks.due("one constructor", 1, () -> constructors.length);
        checks.due("it is public and without parameters", "public TileWordBoard()",
                constructors[0].toString());
        for (Field field : TileWordBoard.class.getDeclaredFields()) {
            boolean isNone = field.getName().equals("NONE");
            checks.due(field + " is as private as it should be", "" + isNone,
                    "" + !Modifier.isPrivate(field.getModifiers()));
        }
    }

    private void classesInside() {
        Class<?>[] inside = TileWordBoard.class.getDeclaredClasses();
        checks.due("at most twelve classes", "true", "" + (inside.length < 12));
        for (Class<?> type : inside) {
            checks.due(type + " is private and static", "true",
                    "" + (Modifier.isPrivate(type.getModifiers())
                            && Modifier.isStatic(type.getModifiers())));
            for (Field field : type.getDeclaredFields()) {
                boolean isStatic = Modifier.isStatic(field.getModifiers());
                checks.due(field + " is final if it is static", "true",
                        "" + (!isStatic || Modifier.isFinal(field.getModifiers())));
            }
        }
    }

    private void text(Path file) throws IOException {
        String source = Files.readString(file);
        String code = source.replaceAll("(?s)/\\*.*?\\*/", "").replaceAll("//[^\n]*", "");
        for (String word : NOT_IN_THE_LANGUAGE) {
            checks.due("no " + word, "false", "" + code.contains(word));
        }
        checks.due("no text is joined by +", "false",
                "" + Pattern.compile("\"\\s*\\+|\\+\\s*\"").matcher(code).find());
        checks.due("no sign beyond 127", "true", "" + source.chars().allMatch(c -> c < 128));
        int longest = 0;
        Matcher method = Pattern.compile("(?m)^( +)[^ *\n][^;\n]*\\{\n").matcher(code);
        while (method.find()) {
            boolean goesOn = method.group().trim().startsWith("throws");
            String indent = goesOn ? "    " : method.group(1);
            int end = code.indexOf("\n" + indent + "}", method.end());
            int lines = end < 0 ? 0 : (int) code.substring(method.start(), end).lines().count();
            boolean isClass = method.group().contains(" class ");
            longest = Math.max(longest, isClass ? 0 : lines);
        }
        checks.due("methods of at most 60 lines", "true", "" + (longest > 5 && longest <= 60));
    }
}
