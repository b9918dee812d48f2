import java.io.IOException;
import java.lang.reflect.Constructor;
import java.lang.reflect.Field;
import java.lang.reflect.Method;
import java.lang.reflect.Modifier;
import java.nio.file.Files;
import java.nio.file.Path;
import java.util.Arrays;
import java.util.Set;
import java.util.TreeSet;

/** The face of the class, and those rules of LANGUAGE.md that can be seen in the class file or in the text. */
public final class LanguageTest {
    private static final String SOURCE = "src/main/java/EventStructures.java";
    private static final String[] FACE = {"addEvent(int,int,int)", "removeEvent(int,int)", "addCause(int,int,int)",
        "addConflict(int,int,int)", "setLabel(int,int,int)", "clear(int)", "copy(int,int)", "eventCount(int)",
        "label(int,int)", "isBelow(int,int,int)", "areInConflict(int,int,int)", "history(int,int)",
        "concurrentPairs(int)", "isConfiguration(int,int)", "configurationCount(int)", "maximalCount(int)",
        "maximalConfiguration(int,int)", "enabled(int,int)", "stepCount(int,int)", "largestStep(int,int)",
        "runCount(int,int)", "stepRunCount(int,int)", "shortestTime(int,int)", "totalTime(int,int)",
        "occur(int,int)", "withdraw(int,int)", "current(int)", "areBisimilar(int)", "separationRound(int)",
        "equivalenceClasses(int)", "wordDifferenceLength()", "wordDifferenceLabel(int)", "wordCount(int)",
        "refine(int,int,int,int,boolean)", "clearNet()", "addPlace(boolean)", "addTransition(int,int,int)",
        "unfold(int)", "conditionCount()", "append(int)", "parse(int)", "save()", "restore()"};
    private static final String[] CONSTANTS = {"NO_SUCH_ELEMENT", "OUT_OF_RANGE", "FULL", "CYCLE", "NOT_POSSIBLE",
        "TOO_LARGE", "NONE", "OVERFLOW"};
    private static final String[] FORBIDDEN = {"\\bthrow\\b", "\\btry\\b", "\\bcatch\\b", "\\bsynchronized\\b",
        "\\bassert\\b", "->", "::", "\\bpackage\\b", "\\bThread\\b", "\\bRandom\\b", "\\bSystem\\b(?!\\.arraycopy)",
        "\\bimport\\b(?! java\\.util\\.(Arrays|ArrayList|List);)", "Exact\\b", "\\binterface\\b.*\\bdefault\\b",
        "\\bequals\\b|\\bhashCode\\b|\\btoString\\b", "\\bstatic \\{", "[^\\x00-\\x7f]", "\"[^\"]*\" \\+"};

    private LanguageTest() {
    }

    private static void due(String what, boolean holds) {
        Checks.due(what, holds ? 1 : 0, 1);
    }

    private static void face() {
        Class<EventStructures> face = EventStructures.class;
        due("public and final", Modifier.isPublic(face.getModifiers()) && Modifier.isFinal(face.getModifiers()));
        Set<String> publicMethods = new TreeSet<>();
        Set<String> publicNames = new TreeSet<>();
        for (Method method : face.getDeclaredMethods()) {
            if (Modifier.isPublic(method.getModifiers())) {
                String types = Arrays.toString(method.getParameterTypes()).replaceAll("[\\[\\] ]", "");
                publicMethods.add(method.getName() + "(" + types + ")");
                publicNames.add(method.getName());
                due(method.getName() + " answers an int", method.getReturnType() == int.class);
            }
        }
        due("the methods of the document", publicMethods.equals(new TreeSet<>(Arrays.asList(FACE))));
        for (Method method : face.getDeclaredMethods()) {
            int modifiers = method.getModifiers();
            due(method + " is public or private", Modifier.isPublic(modifiers) || Modifier.isPrivate(modifiers));
            due(method + " has a name of its own",
                    Modifier.isPublic(modifiers) || !publicNames.contains(method.getName()));
            due(method + " has few parameters", method.getParameterCount() <= 7);
        }
        Constructor<?>[] constructors = face.getDeclaredConstructors();
        due("one public constructor without parameters", constructors.length == 1
                && constructors[0].getParameterCount() == 0 && Modifier.isPublic(constructors[0].getModifiers()));
        members(face, publicNames);
    }

    private static void members(Class<?> face, Set<String> publicNames) {
        Set<String> constants = new TreeSet<>();
        for (Field field : face.getDeclaredFields()) {
            int modifiers = field.getModifiers();
            if (Modifier.isPublic(modifiers)) {
                constants.add(field.getName());
                due(field + " is a constant", Modifier.isStatic(modifiers) && field.getType() == int.class);
            }
            due(field + " is public or private", Modifier.isPublic(modifiers) || Modifier.isPrivate(modifiers));
        }
        due("the constants of the document", constants.equals(new TreeSet<>(Arrays.asList(CONSTANTS))));
        Class<?>[] inside = face.getDeclaredClasses();
        due("some twelve classes", inside.length <= 11);
        staticFieldsAreFinal(face);
        for (Class<?> one : inside) {
            due(one + " is static", Modifier.isStatic(one.getModifiers()) && !Modifier.isPublic(one.getModifiers()));
            due(one + " has no classes inside", one.getDeclaredClasses().length == 0);
            staticFieldsAreFinal(one);
            for (Method method : one.getDeclaredMethods()) {
                due(method + " has a name of its own", !publicNames.contains(method.getName())
                        || !Modifier.isPrivate(method.getModifiers()));
                due(method + " has few parameters", method.getParameterCount() <= 7);
            }
        }
    }

    private static void staticFieldsAreFinal(Class<?> one) {
        int fields = 0;
        for (Field field : one.getDeclaredFields()) {
            boolean isStatic = Modifier.isStatic(field.getModifiers());
            due(field + " is final if static", !isStatic || Modifier.isFinal(field.getModifiers()));
            fields += isStatic ? 0 : 1;
        }
        due(one + " has some twenty fields", fields <= 20);
    }

    private static void text() throws IOException {
        String source = Files.readString(Path.of(SOURCE));
        String code = source.replaceAll("(?s)/\\*.*?\\*/", "").replaceAll("//[^\n]*", "");
        for (String rule : FORBIDDEN) {
            due("no " + rule, !java.util.regex.Pattern.compile(rule).matcher(code).find());
        }
        int start = -1;
        String[] lines = source.split("\n");
        for (int i = 0; i < lines.length; i++) {
            due("line " + (i + 1) + " is short", lines[i].length() <= 120);
            if (lines[i].matches(" {4,8}\\w.*\\(.*\\) \\{")) {
                start = i;
            } else if (start >= 0 && lines[i].matches(" {4,8}}")) {
                due("the method of line " + (start + 1) + " is short", i - start <= 60);
                start = -1;
            }
        }
    }

    public static void main(String[] args) throws IOException {
        face();
        text();
        Checks.finish();
    }
}
