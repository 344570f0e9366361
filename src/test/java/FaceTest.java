import java.io.IOException;
import java.lang.reflect.Constructor;
import java.lang.reflect.Field;
import java.lang.reflect.Method;
import java.lang.reflect.Modifier;
import java.nio.file.Files;
import java.nio.file.Path;
import java.util.Arrays;
import java.util.Set;
import java.util.TreeSet;
import java.util.regex.Matcher;
import java.util.regex.Pattern;

/** The public face of the document, and the rules of LANGUAGE.md that a class and its text show. */
public final class FaceTest {
    private static final String[] CONSTANTS = {"BAD", "DONE", "STOPPED", "UNSEEN", "HAVE", "HEAVY", "FULL",
        "NOT_HELD", "NO_BOX", "CLOSED", "NO_WAY", "SAME", "UNKNOWN", "CONFUSED", "NOTHING"};
    private static final Set<String> METHODS = new TreeSet<>(Set.of(
            "boolean dark(int,boolean)", "boolean link(int,int,int)", "boolean thing(int,int,int)",
            "int word(int,int)", "int rule(int,int,int,int)", "int unrule()", "boolean type(int)",
            "int enter()", "int command(int,int,int)", "int place(int)", "int traits(int)", "int player()",
            "int counter(int)", "boolean visible(int)", "int said()", "int saying(int)"));

    public static void main(String[] args) throws IOException {
        Due due = new Due();
        theClass(due);
        constants(due);
        methods(due);
        fields(due);
        text(due);
        due.end();
    }

    private static void theClass(Due due) {
        int modifiers = StoryWorld.class.getModifiers();
        due.yes("public final", Modifier.isPublic(modifiers) && Modifier.isFinal(modifiers));
        due.is("nested classes", 0, StoryWorld.class.getDeclaredClasses().length);
        Constructor<?>[] constructors = StoryWorld.class.getDeclaredConstructors();
        due.is("constructors", 1, constructors.length);
        due.is("its parameters", 0, constructors[0].getParameterCount());
        due.yes("it is public", Modifier.isPublic(constructors[0].getModifiers()));
    }

    private static void constants(Due due) {
        int value = -1;
        for (String name : CONSTANTS) {
            due.is(name, value, constant(name));
            value++;
        }
        due.is("NO_ROOM", -2, constant("NO_ROOM"));
    }

    private static long constant(String name) {
        try {
            Field field = StoryWorld.class.getDeclaredField(name);
            int wanted = Modifier.PUBLIC | Modifier.STATIC | Modifier.FINAL;
            return field.getModifiers() == wanted && field.getType() == int.class ? field.getInt(null) : -99;
        } catch (ReflectiveOperationException e) {
            return -98;
        }
    }

    private static void methods(Due due) {
        Set<String> found = new TreeSet<>();
        Set<String> publicNames = new TreeSet<>();
        for (Method method : StoryWorld.class.getDeclaredMethods()) {
            if (!Modifier.isPrivate(method.getModifiers())) {
                String types = Arrays.toString(method.getParameterTypes()).replaceAll("[\\[\\] ]", "");
                found.add(method.getReturnType() + " " + method.getName() + "(" + types + ")");
                publicNames.add(method.getName());
                due.is(method + " is public alone", Modifier.PUBLIC, method.getModifiers());
            }
        }
        due.yes("methods are " + found, found.equals(METHODS));
        for (Method method : StoryWorld.class.getDeclaredMethods()) {
            if (Modifier.isPrivate(method.getModifiers())) {
                due.no(method + " bears a public name", publicNames.contains(method.getName()));
            }
            due.yes(method + " has at most 7 parameters", method.getParameterCount() <= 7);
        }
    }

    private static void fields(Due due) {
        int ownFields = 0;
        for (Field field : StoryWorld.class.getDeclaredFields()) {
            boolean isStatic = Modifier.isStatic(field.getModifiers());
            boolean isPrivate = Modifier.isPrivate(field.getModifiers());
            boolean named = field.getName().equals("NO_ROOM") || Arrays.asList(CONSTANTS).contains(field.getName());
            due.yes(field + " is private or of the document", isPrivate || named);
            Class<?> type = field.getType();
            Class<?> simple = type.isArray() ? type.getComponentType() : type;
            due.yes(field + " has a simple type",
                    simple.isPrimitive() && simple != float.class && simple != double.class);
            if (isStatic) {
                due.yes(field + " is an int or long constant",
                        Modifier.isFinal(field.getModifiers()) && (type == int.class || type == long.class));
            } else {
                ownFields++;
            }
        }
        due.yes("at most 40 fields", ownFields <= 40);
    }

    private static void text(Due due) throws IOException {
        String source = Files.readString(Path.of("src/main/java/StoryWorld.java"));
        String code = source.replaceAll("(?s)/\\*.*?\\*/", " ").replaceAll("//[^\\n]*", " ");
        String[] words = {"throw", "throws", "try", "catch", "finally", "synchronized", "assert", "instanceof",
            "null", "import", "package", "String", "Math", "Integer", "System", "Arrays", "Object", "float",
            "double", "protected", "interface", "enum", "record", "var", "yield"};
        for (String word : words) {
            due.no("the word " + word, Pattern.compile("\\b" + word + "\\b").matcher(code).find());
        }
        due.no("a lambda or a method reference", code.contains("->") || code.contains("::"));
        due.no("a text", code.contains("\""));
        due.no("an array of arrays", code.contains("[]["));
        Matcher made = Pattern.compile("\\bnew\\b").matcher(code);
        Matcher inField = Pattern.compile(
                "\\n    private final \\w+\\[] \\w+ = new \\w+\\[\\w+];").matcher(code);
        due.is("everything new is a field's array", made.results().count(), inField.results().count());
    }
}
