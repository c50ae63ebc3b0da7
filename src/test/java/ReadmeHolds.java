import java.io.IOException;
import java.lang.reflect.Field;
import java.lang.reflect.Method;
import java.lang.reflect.Modifier;
import java.nio.charset.StandardCharsets;
import java.nio.file.Files;
import java.nio.file.Path;
import java.util.regex.Matcher;
import java.util.regex.Pattern;

/** That README.md names all of the face, and that each call of its examples answers as it says. */
public final class ReadmeHolds {
    private static final String NEW = "RoadsCrossed x = new RoadsCrossed();";
    private static final Pattern EXAMPLE = Pattern.compile("```java\\n(.*?)```", Pattern.DOTALL);
    private static final Pattern CALL = Pattern.compile("x\\.(\\w+)\\(([^)]*)\\); +// ([-\\w]+)(?:: .+)?");

    private static int asked = 0;
    private static int wrong = 0;

    public static void main(String[] args) throws IOException, ReflectiveOperationException {
        String readme = Files.readString(Path.of("README.md"), StandardCharsets.UTF_8);
        namesTheFace(readme);
        Matcher example = EXAMPLE.matcher(readme);
        while (example.find()) {
            answersAsItSays(example.group(1));
        }
        if (asked == 0) {
            tell("there is no example");
        }
        System.out.println(wrong == 0 ? asked + " calls of README.md, all as it says" : wrong + " faults of README.md");
        if (wrong != 0) {
            System.exit(1);
        }
    }

    private static void namesTheFace(String readme) {
        for (Method call : RoadsCrossed.class.getDeclaredMethods()) {
            names(readme, call.getName(), call.getModifiers());
        }
        for (Field constant : RoadsCrossed.class.getDeclaredFields()) {
            names(readme, constant.getName(), constant.getModifiers());
        }
    }

    private static void names(String readme, String name, int modifiers) {
        if (Modifier.isPublic(modifiers) && !readme.contains("`" + name + "`")) {
            tell(name + " is not named");
        }
    }

    private static void answersAsItSays(String example) throws ReflectiveOperationException {
        RoadsCrossed x = new RoadsCrossed();
        for (String line : example.split("\n")) {
            if (line.equals(NEW)) {
                x = new RoadsCrossed();
                continue;
            }
            Matcher call = CALL.matcher(line);
            if (!call.matches()) {
                tell("this is no call with its answer: " + line);
                continue;
            }
            asked++;
            int got = answer(x, call.group(1), call.group(2));
            if (got != number(call.group(3))) {
                tell("answered " + got + ": " + line);
            }
        }
    }

    private static int answer(RoadsCrossed x, String name, String arguments) throws ReflectiveOperationException {
        String[] words = arguments.isEmpty() ? new String[0] : arguments.split(", ");
        Class<?>[] types = new Class<?>[words.length];
        Object[] numbers = new Object[words.length];
        for (int i = 0; i < words.length; i++) {
            types[i] = int.class;
            numbers[i] = number(words[i]);
        }
        return (Integer) RoadsCrossed.class.getMethod(name, types).invoke(x, numbers);
    }

    /** A number as Java writes it, or the name of a constant. */
    private static int number(String word) throws ReflectiveOperationException {
        String name = word.replace("RoadsCrossed.", "");
        return Character.isUpperCase(name.charAt(0)) ? RoadsCrossed.class.getField(name).getInt(null) : Integer.decode(name);
    }

    private static void tell(String fault) {
        wrong++;
        System.out.println("README.md: " + fault);
    }
}
