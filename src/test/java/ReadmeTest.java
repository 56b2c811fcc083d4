import java.lang.reflect.Method;
import java.lang.reflect.Modifier;
import java.nio.file.Files;
import java.nio.file.Path;
import java.util.HashMap;
import java.util.Map;
import java.util.TreeSet;
import java.util.regex.Matcher;
import java.util.regex.Pattern;

/** What README.md shows must be so: each line of its example, each call in its table, its text. */
public final class ReadmeTest {
    private static final Pattern LINE =
        Pattern.compile("(?:int (\\w+) = )?town\\.(\\w+)\\(([^)]*)\\); +// (-?\\d+)\\b.*");

    private static int wrong = 0;

    public static void main(String[] args) throws Exception {
        String page = Files.readString(Path.of("README.md"));
        exampleAnswersWhatStandsBesideIt(page);
        tableNamesEveryCall(page);
        textCanBeRead(page);
        System.out.println(wrong == 0 ? "README.md is as due" : wrong + " faults of README.md");
        if (wrong != 0) {
            System.exit(1);
        }
    }

    private static void due(boolean right, String what) {
        if (!right) {
            wrong++;
            System.out.println(what);
        }
    }

    private static void exampleAnswersWhatStandsBesideIt(String page) throws ReflectiveOperationException {
        Matcher block = Pattern.compile("(?s)```java\n(.*?)```").matcher(page);
        due(block.find(), "there is no example");
        String[] lines = block.group(1).split("\n");
        due(lines[0].equals("WrapGifts town = new WrapGifts();"), "the example makes no object: " + lines[0]);
        WrapGifts town = new WrapGifts();
        Map<String, Integer> names = new HashMap<>();
        for (int i = 1; i < lines.length; i++) {
            Matcher line = LINE.matcher(lines[i]);
            if (!line.matches()) {
                due(false, "a line of the example can't be read: " + lines[i]);
                continue;
            }
            int got = answerOf(town, line.group(2), line.group(3), names);
            due(got == Integer.parseInt(line.group(4)), lines[i] + " answered " + got);
            if (line.group(1) != null) {
                names.put(line.group(1), got);
            }
        }
    }

    private static int answerOf(WrapGifts town, String call, String words, Map<String, Integer> names)
            throws ReflectiveOperationException {
        String[] parts = words.isEmpty() ? new String[0] : words.split(", ");
        Class<?>[] types = new Class<?>[parts.length];
        Object[] values = new Object[parts.length];
        for (int k = 0; k < parts.length; k++) {
            types[k] = int.class;
            values[k] = names.containsKey(parts[k]) ? names.get(parts[k]) : Integer.valueOf(parts[k]);
        }
        return (int) WrapGifts.class.getMethod(call, types).invoke(town, values);
    }

    private static void tableNamesEveryCall(String page) {
        TreeSet<String> face = new TreeSet<>();
        for (Method m : WrapGifts.class.getDeclaredMethods()) {
            if (Modifier.isPublic(m.getModifiers())) {
                face.add(m.getName() + " " + m.getParameterCount());
            }
        }
        TreeSet<String> told = new TreeSet<>();
        for (String row : page.split("\n")) {
            Matcher call = Pattern.compile("`(\\w+)\\(([^)]*)\\)`").matcher(row);
            while (row.startsWith("| ") && call.find()) {
                int count = call.group(2).isEmpty() ? 0 : call.group(2).split(", ").length;
                due(told.add(call.group(1) + " " + count), "told twice: " + call.group());
            }
        }
        due(told.equals(face), "the table tells " + told);
    }

    private static void textCanBeRead(String page) {
        Matcher text = Pattern.compile("`(girl; [a-z0-9 ;]+)`").matcher(page);
        due(text.find(), "there is no text");
        WrapGifts town = new WrapGifts();
        for (char c : text.group(1).toCharArray()) {
            town.feed(c, 1);
        }
        due(town.town() == 2, "the text is not of two items");
        due(town.of(0, 0) == 4 && town.of(0, 2) == 1, "there is no girl with a present");
        due(town.presentOf(0, 1) == 9 && town.paper(0, 0) == 3 && town.paper(0, 1) == 0, "it is another present");
    }
}
