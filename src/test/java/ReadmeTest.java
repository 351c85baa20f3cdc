import java.lang.reflect.Method;
import java.lang.reflect.Modifier;
import java.nio.file.Files;
import java.nio.file.Path;
import java.util.regex.Matcher;
import java.util.regex.Pattern;

/** What README.md shows of the class: each call there answers what stands behind it, and no call is left out. */
public final class ReadmeTest extends Edges {
    private static final Pattern CALL = Pattern.compile("x\\.(\\w+)\\(([^)]*)\\);(?:\\s*// (-?\\d+).*)?");
    private static final Pattern TEXT = Pattern.compile("say\\(x, \"([^\"]*)\"\\);");

    private ReadmeTest() {
    }

    public static void main(String[] args) throws Exception {
        String page = Files.readString(Path.of("README.md"));
        sentence("the example of README.md");
        due("calls there", runExample(page) > 15, true);
        sentence("README.md names all calls");
        for (Method method : ChangePlaces.class.getDeclaredMethods()) {
            if (Modifier.isPublic(method.getModifiers())) {
                due(method.getName(), page.contains("`" + method.getName() + "`") || page.contains("`" + method.getName() + "("), true);
            }
        }
        finish();
    }

    /** How many calls have an answer behind them. */
    private static int runExample(String page) throws Exception {
        int answered = 0;
        ChangePlaces x = new ChangePlaces();
        for (String line : page.substring(page.indexOf("ChangePlaces x = new")).split("\n")) {
            if (line.equals("```")) {
                break;
            }
            Matcher text = TEXT.matcher(line);
            Matcher call = CALL.matcher(line);
            if (text.matches()) {
                say(x, text.group(1));
            } else if (call.matches()) {
                long answer = answerOf(x, call.group(1), call.group(2));
                due(line, answer, call.group(3) == null ? answer : Long.parseLong(call.group(3)));
                answered += call.group(3) == null ? 0 : 1;
            } else {
                due(line, line.startsWith("ChangePlaces x = new"), true);
            }
        }
        return answered;
    }

    private static long answerOf(ChangePlaces x, String name, String given) throws Exception {
        String[] words = given.isEmpty() ? new String[0] : given.split(", ");
        Class<?>[] types = new Class<?>[words.length];
        Object[] numbers = new Object[words.length];
        for (int i = 0; i < words.length; i++) {
            types[i] = int.class;
            numbers[i] = words[i].equals("NONE") ? NONE : Integer.parseInt(words[i]);
        }
        Object answer = ChangePlaces.class.getMethod(name, types).invoke(x, numbers);
        return answer instanceof Boolean yes ? (yes ? 1 : 0) : (Integer) answer;
    }
}
