import java.io.IOException;
import java.lang.reflect.Method;
import java.lang.reflect.Modifier;
import java.nio.file.Files;
import java.nio.file.Path;
import java.util.Arrays;
import java.util.TreeSet;
import java.util.regex.Matcher;
import java.util.regex.Pattern;

/** The face of the class and those rules of LANGUAGE.md that can be seen in the text or by what a run makes. */
public final class FormTest {
    private static final String FACE = """
        as(int,int)int
        best(int,int)int
        book(int,int)int
        comes(int,int)int
        copy(int,int,int,int,int)int
        count(int)int
        days(int)int
        does(int,int,int)int
        enough(int,int,int)int
        feed(int,int)int
        found(int)int
        give(int,int)int
        happiest(int)int
        image()int
        joy(int,int)int
        joyOn(int,int)int
        kind(int,int)int
        lays(int,int)int
        least(int,int,int,int)int
        now(int)int
        of(int,int)int
        on(int,int,int)int
        order(int,int)int
        paper(int,int)int
        person(int)int
        present(int,int)int
        presentOf(int,int)int
        read(int,int,int)int
        set(int,int,int)int
        sheet(int,int,int)int
        status(int)int
        tear()int
        town()int
        turn(int,int)int
        undo()int
        unwrap(int)int
        wipe()int
        wrap(int,int)int
        write(int,int,long)long
        """;

    private static int wrong = 0;

    public static void main(String[] args) throws IOException {
        face();
        noPrivateMethodBearsAPublicName();
        String source = Files.readString(Path.of("src/main/java/WrapGifts.java"));
        noRuledOutWord(source);
        methodsAreShort(source);
        callsMakeNothing();
        System.out.println(wrong == 0 ? "the form is as due" : wrong + " faults of form");
        if (wrong != 0) {
            System.exit(1);
        }
    }

    private static void due(boolean right, String what) {
        if (!right) {
            wrong++;
            System.out.println(what);
        }
    }

    private static void face() {
        TreeSet<String> got = new TreeSet<>();
        for (Method m : WrapGifts.class.getDeclaredMethods()) {
            if (!Modifier.isPrivate(m.getModifiers())) {
                String types = String.join(",", Arrays.stream(m.getParameterTypes()).map(Class::getName).toList());
                got.add(m.getName() + "(" + types + ")" + m.getReturnType().getName());
                due(m.getModifiers() == Modifier.PUBLIC, m + " is not just public");
            }
        }
        due(got.equals(new TreeSet<>(Arrays.asList(FACE.split("\n")))), "the face is " + got);
        due(Modifier.isFinal(WrapGifts.class.getModifiers()), "the class is not final");
        due(WrapGifts.class.getDeclaredConstructors().length == 1, "there is not one constructor");
        due(WrapGifts.class.getConstructors().length == 1, "the constructor is not public");
        Arrays.stream(WrapGifts.class.getDeclaredFields())
            .forEach(f -> due(Modifier.isPrivate(f.getModifiers()), f + " is not private"));
        due(WrapGifts.class.getDeclaredClasses().length <= 12, "there are too many classes");
        for (Class<?> c : WrapGifts.class.getDeclaredClasses()) {
            due(Modifier.isStatic(c.getModifiers()), c + " is not static");
            due(Arrays.stream(c.getDeclaredFields()).filter(f -> !Modifier.isStatic(f.getModifiers())).count() <= 20,
                c + " has too many fields");
        }
    }

    private static void noPrivateMethodBearsAPublicName() {
        TreeSet<String> names = new TreeSet<>();
        for (Method m : WrapGifts.class.getMethods()) {
            names.add(m.getName());
        }
        for (Class<?> c : WrapGifts.class.getDeclaredClasses()) {
            for (Method m : c.getDeclaredMethods()) {
                due(!names.contains(m.getName()), c + " has a method with a public name: " + m.getName());
            }
        }
        for (Method m : WrapGifts.class.getDeclaredMethods()) {
            due(!Modifier.isPrivate(m.getModifiers()) || !names.contains(m.getName()), m + " bears a public name");
        }
    }

    private static void noRuledOutWord(String source) {
        String code = source.replaceAll("(?s)/\\*.*?\\*/", "").replaceAll("//[^\n]*", "");
        String[] words = {"throw", "throws", "try", "catch", "finally", "synchronized", "assert", "import", "package",
            "hashCode", "toString", "Object", "Thread", "Random", "volatile", "native", "float", "double", "@\\w+"};
        for (String word : words) {
            Matcher m = Pattern.compile("(?<![\\w@])" + word + "\\b").matcher(code);
            due(!m.find(), "the code has the word " + word);
        }
        due(!code.contains("->") && !code.contains("::"), "the code has a lambda or a reference to a method");
        due(source.chars().allMatch(c -> c < 128), "the text has a sign above 127");
        Matcher calls = Pattern.compile("\\b([A-Z]\\w+)\\.(\\w+)\\(").matcher(code);
        TreeSet<String> allowed = new TreeSet<>(Arrays.asList("Math.min", "Math.max", "Integer.bitCount", "System.arraycopy"));
        while (calls.find()) {
            due(allowed.contains(calls.group(1) + "." + calls.group(2)), "the code calls " + calls.group());
        }
    }

    private static void methodsAreShort(String source) {
        String[] lines = source.split("\n");
        for (int i = 0; i < lines.length; i++) {
            Matcher begin = Pattern.compile("^( +)[a-z].*\\) \\{$").matcher(lines[i]);
            if (begin.find() && (begin.group(1).length() == 4 || begin.group(1).length() == 8)) {
                int end = i;
                while (!lines[end].equals(begin.group(1) + "}") && !lines[end].startsWith(begin.group(1) + "} else")) {
                    end++;
                }
                due(end - i < 60, "long: " + lines[i].trim());
            }
        }
    }

    /** 512 of the dearest calls may make next to nothing, for all runs share one room. */
    private static void callsMakeNothing() {
        com.sun.management.ThreadMXBean room =
            (com.sun.management.ThreadMXBean) java.lang.management.ManagementFactory.getThreadMXBean();
        long sum = dearCalls();
        long before = room.getCurrentThreadAllocatedBytes();
        sum += dearCalls();
        long made = room.getCurrentThreadAllocatedBytes() - before;
        due(made < 40_000, "a run of dear calls made " + made + " bytes");
        due(sum != 0, "the calls answered nothing");
    }

    private static long dearCalls() {
        WrapGifts x = new WrapGifts();
        long sum = 0;
        for (int k = 0; k < 6; k++) {
            sum += x.person(k);
        }
        for (int g = 0; g < 8; g++) {
            x.present(g % 6, g);
            for (int l = 0; l < 5; l++) {
                x.wrap(g, (g + l) % 4);
            }
        }
        for (int k = 0; k < 40; k++) {
            x.image();
            sum += x.sheet(k % 4, 64, 40) + x.book(k % 4, k % 6) + x.read(k % 4, k % 6, k % 8) + x.order(k % 8, 10);
            sum += x.least(k % 8, k % 6, 30, 9999) + x.found(k % 8) + x.kind(k % 6, 30) + x.enough(k % 8, k % 4, 30);
            x.feed(0x67697200 + 'l', 4);
            sum += x.town();
            sum += x.undo();
        }
        return sum;
    }
}
