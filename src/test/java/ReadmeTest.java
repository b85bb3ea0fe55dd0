import java.lang.reflect.Method;
import java.nio.file.Files;
import java.nio.file.Path;
import java.util.HashMap;
import java.util.Map;
import java.util.regex.Matcher;
import java.util.regex.Pattern;

/** The example of README.md, read from the file itself: each call has the answer that stands behind it. */
public final class ReadmeTest {
    private static final Pattern MAKING = Pattern.compile("RiskHouse house = new RiskHouse\\((\\d+)\\);.*");
    private static final Pattern CALL =
            Pattern.compile("(?:int (\\w+) = )?house\\.(\\w+)\\(([^)]*)\\);\\s*// (-?\\d+|true|false)\\b.*");

    public static void main(String[] args) throws Exception {
        String[] lines = example(Files.readString(Path.of("README.md")));
        Map<String, Integer> names = new HashMap<>();
        RiskHouse house = null;
        int calls = 0;
        int wrong = 0;
        for (String line : lines) {
            Matcher making = MAKING.matcher(line);
            Matcher call = CALL.matcher(line);
            if (making.matches()) {
                house = new RiskHouse(Integer.parseInt(making.group(1)));
            } else if (house != null && call.matches()) {
                calls++;
                Object got = answer(house, call.group(2), call.group(3).split(", "), names);
                if (!got.toString().equals(call.group(4))) {
                    wrong++;
                    System.out.println(line + " answered " + got);
                }
                if (call.group(1) != null) {
                    names.put(call.group(1), (Integer) got);
                }
            } else {
                wrong++;
                System.out.println("not a call with its answer: " + line);
            }
        }
        if (wrong != 0 || calls == 0) {
            System.out.println(wrong + " of " + calls + " calls are not as due");
            System.exit(1);
        }
        System.out.println("all answers are as due");
    }

    private static String[] example(String readme) {
        int begin = readme.indexOf("```java\n") + "```java\n".length();
        return readme.substring(begin, readme.indexOf("```", begin)).split("\n");
    }

    private static Object answer(RiskHouse house, String name, String[] words, Map<String, Integer> names)
            throws Exception {
        Object[] values = new Object[words.length];
        for (int i = 0; i < words.length; i++) {
            values[i] = value(words[i], names);
        }
        for (Method m : RiskHouse.class.getMethods()) {
            if (m.getName().equals(name)) {
                return m.invoke(house, values);
            }
        }
        return "no such call";
    }

    private static Object value(String word, Map<String, Integer> names) {
        if (word.equals("true") || word.equals("false")) {
            return word.equals("true");
        }
        return names.containsKey(word) ? names.get(word) : Integer.valueOf(word);
    }
}
