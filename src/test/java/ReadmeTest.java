import java.io.IOException;
import java.lang.reflect.Method;
import java.lang.reflect.Modifier;
import java.nio.file.Files;
import java.nio.file.Path;
import java.util.Arrays;
import java.util.regex.Matcher;
import java.util.regex.Pattern;

/** The calls that README.md shows answer what it says, and it leaves out no call of the class. */
public final class ReadmeTest extends Due {
    /** A call, and perhaps the answer as the first word of the comment behind it. */
    private static final Pattern CALL =
        Pattern.compile("shop\\.(\\w+)\\(([^)]*)\\);(?:\\s*// (-?\\d+).*)?");

    public static void main(String[] args) throws IOException, ReflectiveOperationException {
        String text = Files.readString(Path.of("README.md"));
        TubeShop shop = new TubeShop();
        int shown = 0;
        for (String line : text.split("\n")) {
            Matcher call = CALL.matcher(line);
            if (call.matches()) {
                answer(shop, call);
                shown++;
            }
        }
        due("the README shows calls", shown > 5, true);
        for (Method method : TubeShop.class.getDeclaredMethods()) {
            if (Modifier.isPublic(method.getModifiers())) {
                due("the table has " + method.getName(),
                    text.contains("\n| `" + method.getName() + "("), true);
            }
        }
        end();
    }

    private static void answer(TubeShop shop, Matcher call) throws ReflectiveOperationException {
        Object[] numbers = numbersOf(call.group(2));
        Object got = methodOf(call.group(1), numbers.length).invoke(shop, numbers);
        if (call.group(3) != null) {
            due(call.group(), String.valueOf(got), call.group(3));
        }
    }

    private static Method methodOf(String name, int numbers) throws NoSuchMethodException {
        Class<?>[] types = new Class<?>[numbers];
        Arrays.fill(types, int.class);
        return TubeShop.class.getMethod(name, types);
    }

    private static Object[] numbersOf(String list) {
        if (list.isBlank()) {
            return new Object[0];
        }
        String[] words = list.split(",");
        Object[] numbers = new Object[words.length];
        for (int k = 0; k < words.length; k++) {
            numbers[k] = numberOf(words[k].trim());
        }
        return numbers;
    }

    private static Integer numberOf(String word) {
        return word.startsWith("0b") ? Integer.valueOf(word.substring(2), 2) : Integer.valueOf(word);
    }
}
