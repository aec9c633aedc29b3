import java.io.IOException;
import java.lang.reflect.Constructor;
import java.lang.reflect.Method;
import java.lang.reflect.Modifier;
import java.nio.file.Files;
import java.nio.file.Path;
import java.util.regex.Pattern;

/** README.md tells of each public method, and its example answers what stands beside it there. */
public final class ReadmeTests {
    private static int wrong = 0;

    public static void main(String[] args) throws IOException {
        tellsOfEachPublicMember(Files.readString(Path.of("README.md")));
        exampleAnswersWhatItSays();
        if (wrong > 0) {
            System.exit(1);
        }
        System.out.println("README.md is right");
    }

    private static void tellsOfEachPublicMember(String readme) {
        for (Constructor<?> made : TripleDesk.class.getConstructors()) {
            tells(readme, "TripleDesk", made.getParameterTypes());
        }
        for (Method method : TripleDesk.class.getDeclaredMethods()) {
            if (Modifier.isPublic(method.getModifiers())) {
                tells(readme, method.getReturnType() + " " + method.getName(), method.getParameterTypes());
            }
        }
    }

    private static void tells(String readme, String head, Class<?>[] types) {
        StringBuilder form = new StringBuilder("(?m)^- `").append(head).append("\\(");
        for (int i = 0; i < types.length; i++) {
            form.append(i == 0 ? "" : ", ").append(types[i]).append(" \\w+");
        }
        form.append("\\)`: \\S");
        due("README.md tells of " + head, Pattern.compile(form.toString()).matcher(readme).find(), true);
    }

    private static void exampleAnswersWhatItSays() {
        TripleDesk desk = new TripleDesk();
        type(desk, "a >= 0 & a <= 9");
        due("pre()", desk.pre(), 0);
        type(desk, "a = 9");
        due("post()", desk.post(), 0);
        type(desk, "while a < 9 inv a <= 9 var 9 do a := a + 1 od");
        due("program()", desk.program(), 0);
        due("conditions()", desk.conditions(), 4);
        due("proved()", desk.proved(), false);
        due("valid(1)", desk.valid(1), 0);
        due("about(1, 1)", desk.about(1, 1), 1);
        due("counter(1, 0)", desk.counter(1, 0), 8);
        due("counter(1, 6)", desk.counter(1, 6), 9);
        due("the formula", said(desk, 1), "(!((a<=9&a<9)&9=w)|(a+1<=9&9<w))");
        desk.start(0, 5);
        due("run(100)", desk.run(100), 0);
        due("value(0)", desk.value(0), 9L);
        due("holds(1)", desk.holds(1), true);
    }

    private static void type(TripleDesk desk, String text) {
        for (int from = 0; from < text.length(); from += 8) {
            int n = Math.min(8, text.length() - from);
            long w = 0;
            for (int i = 0; i < n; i++) {
                w |= (long) text.charAt(from + i) << (8 * i);
            }
            due("type", desk.type(w, n), true);
        }
    }

    private static String said(TripleDesk desk, int k) {
        StringBuilder text = new StringBuilder();
        int size = desk.say(k);
        for (int i = 0; i < size; i++) {
            text.append((char) desk.out(i));
        }
        return text.toString();
    }

    private static void due(String call, Object got, Object want) {
        if (!got.equals(want)) {
            wrong++;
            System.out.println(call + " answered " + got + ", due is " + want);
        }
    }
}
