import java.io.IOException;
import java.lang.reflect.InvocationTargetException;
import java.lang.reflect.Method;
import java.lang.reflect.Modifier;
import java.nio.file.Files;
import java.nio.file.Path;
import java.util.Set;
import java.util.TreeSet;
import java.util.regex.Matcher;
import java.util.regex.Pattern;

/** Makes the calls that README.md shows, in their order, and asks for the answers that it tells. */
public final class ReadmeTest {
    private static final Pattern CALL = Pattern.compile("keeper\\.(\\w+)\\((.*?)\\); *// (-?\\d+)(:.*)?");

    private final FactKeeper keeper = new FactKeeper();
    private final Set<String> shown = new TreeSet<>();

    public static void main(String[] args) throws IOException {
        ReadmeTest test = new ReadmeTest();
        for (String line : Files.readAllLines(Path.of("README.md"))) {
            if (line.startsWith("keeper.")) {
                test.make(line);
            }
        }
        Check.note("the calls that README.md shows", face().toString(), test.shown.toString());
        Check.finish("ReadmeTest");
    }

    private static Set<String> face() {
        Set<String> names = new TreeSet<>();
        for (Method method : FactKeeper.class.getDeclaredMethods()) {
            if (Modifier.isPublic(method.getModifiers())) {
                names.add(method.getName());
            }
        }
        return names;
    }

    private void make(String line) {
        Matcher call = CALL.matcher(line);
        if (!call.matches()) {
            Check.note(line, "a call and its answer", "something else");
            return;
        }
        shown.add(call.group(1));
        Check.note(line, call.group(3), answer(call.group(1), call.group(2)));
    }

    private String answer(String name, String args) {
        String[] texts = args.isEmpty() ? new String[0] : args.split(", ");
        for (Method method : FactKeeper.class.getDeclaredMethods()) {
            if (method.getName().equals(name) && Modifier.isPublic(method.getModifiers())) {
                return answer(method, texts);
            }
        }
        return "there is no such method";
    }

    private String answer(Method method, String[] texts) {
        Class<?>[] types = method.getParameterTypes();
        if (types.length != texts.length) {
            return "it takes " + types.length + " arguments";
        }
        Object[] arguments = new Object[texts.length];
        for (int i = 0; i < texts.length; i++) {
            if (types[i] == boolean.class) {
                arguments[i] = Boolean.valueOf(texts[i]);
            } else {
                arguments[i] = Integer.decode(texts[i]);
            }
        }
        try {
            return String.valueOf(method.invoke(keeper, arguments));
        } catch (InvocationTargetException e) {
            return e.getCause().toString();
        } catch (IllegalAccessException e) {
            return e.toString();
        }
    }
}
