import java.lang.reflect.Constructor;
import java.lang.reflect.Field;
import java.lang.reflect.Method;
import java.lang.reflect.Modifier;
import java.nio.file.Files;
import java.nio.file.Path;
import java.util.Set;
import java.util.TreeSet;
import java.util.regex.Matcher;
import java.util.regex.Pattern;

/** The face of the class, and those rules of ../shared/LANGUAGE.md that can be seen from outside or word by word. */
public final class LanguageTest {
    private static final Set<String> CONSTANTS = Set.of("INVALID_ARGUMENT", "ILLEGAL_STATE", "CAPACITY_EXCEEDED", "NONE");
    private static final Set<String> METHODS = Set.of("addRoom 4", "setPrice 2", "set 2", "sellVoucher 1", "book 4",
        "move 2", "cancel 1", "merge 2", "play 4", "take 1", "restore 1", "undo 0", "append 1", "clearText 0", "run 0",
        "count 1", "room 2", "booking 2", "voucher 2", "money 1", "forecast 2", "freeTime 2", "mergeable 2", "slack 1",
        "hintsFor 2", "busiest 1");
    private static final String[] FORBIDDEN = {"import", "package", "throw", "throws", "try", "catch", "synchronized",
        "assert", "var", "static \\{", "->", "::", "\\.equals", "\\.hashCode", "Object", "float", "double"};

    private static final Checks checks = new Checks();

    public static void main(String[] args) throws Exception {
        face();
        nested(TeamRooms.class.getDeclaredClasses());
        words();
        checks.finish("LanguageTest");
    }

    private static void face() {
        Class<?> type = TeamRooms.class;
        checks.holds("public and final", Modifier.isPublic(type.getModifiers()) && Modifier.isFinal(type.getModifiers()));
        Constructor<?>[] constructors = type.getDeclaredConstructors();
        checks.due("constructors", constructors.length, 1);
        checks.due("parameters of the constructor", constructors[0].getParameterCount(), 0);
        checks.holds("public constructor", Modifier.isPublic(constructors[0].getModifiers()));
        Set<String> names = new TreeSet<>();
        for (Method method : type.getDeclaredMethods()) {
            String name = method.getName() + " " + method.getParameterCount();
            if (METHODS.contains(name)) {
                names.add(name);
                checks.holds(name + " is public", Modifier.isPublic(method.getModifiers()));
                checks.holds(name + " answers an int", method.getReturnType() == int.class);
                for (Class<?> parameter : method.getParameterTypes()) {
                    checks.holds(name + " takes ints", parameter == int.class);
                }
            } else {
                checks.holds(name + " is private", Modifier.isPrivate(method.getModifiers()));
                checks.holds(name + " has a name of its own", METHODS.stream().noneMatch(
                    face -> face.startsWith(method.getName() + " ")));
            }
        }
        checks.due("methods of the face", names.size(), METHODS.size());
        for (Field field : type.getDeclaredFields()) {
            boolean constant = CONSTANTS.contains(field.getName());
            checks.holds(field.getName() + " is visible just as it should", constant
                ? Modifier.isPublic(field.getModifiers()) : Modifier.isPrivate(field.getModifiers()));
            checks.holds(field.getName() + " is final", Modifier.isFinal(field.getModifiers()));
        }
    }

    private static void nested(Class<?>[] classes) {
        checks.holds("at most twelve classes", classes.length < 12);
        for (Class<?> type : classes) {
            checks.holds(type + " is static", Modifier.isStatic(type.getModifiers()));
            checks.holds(type + " is not public", !Modifier.isPublic(type.getModifiers()));
            checks.holds(type + " has at most twenty fields", type.getDeclaredFields().length <= 20);
            for (Method method : type.getDeclaredMethods()) {
                checks.holds(type + " " + method + " has a name of its own", METHODS.stream().noneMatch(
                    face -> face.startsWith(method.getName() + " ")));
                checks.holds(method + " takes at most seven", method.getParameterCount() <= 7);
            }
        }
    }

    private static void words() throws Exception {
        String source = Files.readString(Path.of("src/main/java/TeamRooms.java"));
        String code = source.replaceAll("(?s)/\\*.*?\\*/", "").replaceAll("//[^\n]*", "")
            .replaceAll("\"[^\"\n]*\"", "\"\"");
        for (String word : FORBIDDEN) {
            String edge = Character.isLetter(word.charAt(0)) ? "\\b" : "";
            Matcher found = Pattern.compile(edge + word + (edge.isEmpty() || word.endsWith("{") ? "" : "\\b")).matcher(code);
            checks.holds("without " + word, !found.find());
        }
        checks.holds("without other signs", source.chars().allMatch(sign -> sign >= 1 && sign <= 127));
    }
}
