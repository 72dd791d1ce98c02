import java.io.IOException;
import java.lang.management.ManagementFactory;
import java.lang.reflect.Constructor;
import java.lang.reflect.Field;
import java.lang.reflect.Method;
import java.lang.reflect.Modifier;
import java.nio.charset.StandardCharsets;
import java.nio.file.Files;
import java.nio.file.Path;
import java.util.ArrayList;
import java.util.Collections;
import java.util.List;
import java.util.regex.Matcher;
import java.util.regex.Pattern;

/** What can be looked at of ../shared/LANGUAGE.md: the source's words, the face, the room that calls take. */
public final class LanguageTest {
    private static final String SOURCE = "src/main/java/SnowMoney.java";
    private static final String[] FACE = {
        "as(int,int)", "become(int,int)", "carry(int,int)", "change(int,int,int)", "check()", "count(int)",
        "feed(long,int)", "first(int)", "forgers(int,int)", "hours(int)", "image()", "judge(int)", "keep(int,int,int)",
        "lasts(int,int)", "law(int,int,int,int)", "loose(int)", "move(int,int,int,int,int)", "note(int,int,int,int)",
        "odds(int,int,int)", "ofNote(int,int)", "ofPlace(int,int)", "pay(int,int,int)", "place(int)", "put(int,int,int)",
        "restore()", "richest(int,int)", "road(int,int,int)", "seed(int)", "sheet(int,int,int)", "snows(int)", "tell(int)",
        "text(int)", "then(int,int,int)", "told(int)", "trace(int)", "voice(int,int,int)", "warm(int,int)",
        "warmer(int,int)", "way(int,int,int)", "weather(int)", "worth(int)",
    };
    private static int wrong = 0;

    private LanguageTest() {
    }

    private static void need(boolean good, String what) {
        if (!good) {
            wrong++;
            System.out.println(what);
        }
    }

    public static void main(String[] args) throws IOException {
        words();
        face();
        parts();
        room();
        System.out.println(wrong == 0 ? "the language is kept to" : wrong + " rules are broken");
        if (wrong != 0) {
            System.exit(1);
        }
    }

    private static void words() throws IOException {
        byte[] bytes = Files.readAllBytes(Path.of(SOURCE));
        for (byte b : bytes) {
            need(b == 10 || b >= 32, "rule 4: a sign that is not 1 to 127, or no plain one: " + b);
        }
        String text = new String(bytes, StandardCharsets.US_ASCII)
            .replaceAll("(?s)/\\*.*?\\*/", " ").replaceAll("//[^\n]*", " ")
            .replaceAll("\"[^\"\n]*\"", "\"\"").replaceAll("'[^'\n]'", "' '");
        String[] forbidden = {
            "\\b(throw|throws|try|catch|finally|synchronized|assert|package|native|volatile|transient|strictfp)\\b",
            "->", "::", "\\b(var|System\\.(out|err|in|exit|nanoTime|currentTimeMillis)|Thread|Random|Object)\\b",
            "\\w+Exact\\b", "\"\"\\s*\\+|\\+\\s*\"\"", "\\.(equals|hashCode|toString|format|split|stream)\\(", "@\\w+",
            "\\bimport\\s+(?!java\\.util\\.(Arrays|ArrayList|List|Iterator);)",
        };
        for (String pattern : forbidden) {
            Matcher found = Pattern.compile(pattern).matcher(text);
            need(!found.find(), "forbidden: " + pattern);
        }
        shortMethods(text);
    }

    private static void shortMethods(String text) {
        String[] lines = text.split("\n");
        int start = -1;
        String indent = "";
        for (int i = 0; i < lines.length; i++) {
            Matcher head = Pattern.compile("^(    |        )(?!.*\\b(class|new)\\b)\\S.*\\) \\{$").matcher(lines[i]);
            if (start < 0 && head.find()) {
                start = i;
                indent = head.group(1);
            } else if (start >= 0 && lines[i].equals(indent + "}")) {
                need(i - start < 60, "rule 11: a long method at line " + (start + 1));
                start = -1;
            }
        }
    }

    private static String signOf(Method m) {
        StringBuilder s = new StringBuilder(m.getName()).append('(');
        for (Class<?> c : m.getParameterTypes()) {
            s.append(s.charAt(s.length() - 1) == '(' ? "" : ",").append(c.getName());
        }
        return s.append(')').toString();
    }

    private static void face() {
        Class<?> c = SnowMoney.class;
        need(Modifier.isFinal(c.getModifiers()) && Modifier.isPublic(c.getModifiers()), "rule 1: public and final");
        List<String> seen = new ArrayList<>();
        List<String> names = new ArrayList<>();
        for (Method m : c.getDeclaredMethods()) {
            if (!Modifier.isPrivate(m.getModifiers()) && !m.isSynthetic()) {
                seen.add(signOf(m));
                names.add(m.getName());
                need(m.getModifiers() == Modifier.PUBLIC && m.getReturnType() == int.class, "rule 1: " + m);
            }
        }
        Collections.sort(seen);
        need(seen.equals(List.of(FACE)), "rule 1: the face is " + seen);
        for (Method m : c.getDeclaredMethods()) {
            need(!Modifier.isPrivate(m.getModifiers()) || !names.contains(m.getName()), "rule 1: private " + m);
        }
        for (Field f : c.getDeclaredFields()) {
            need(Modifier.isPrivate(f.getModifiers()), "rule 1: " + f);
        }
        Constructor<?>[] made = c.getDeclaredConstructors();
        need(made.length == 1 && made[0].getModifiers() == Modifier.PUBLIC && made[0].getParameterCount() == 0,
            "rule 1: the constructor");
    }

    private static void parts() {
        List<Class<?>> all = new ArrayList<>(List.of(SnowMoney.class.getDeclaredClasses()));
        need(all.size() < 12, "rule 11: " + all.size() + " classes inside");
        for (Class<?> c : all) {
            need(Modifier.isStatic(c.getModifiers()) && !Modifier.isPublic(c.getModifiers())
                && !Modifier.isProtected(c.getModifiers()), "rule 2: " + c);
            need(c.getDeclaredClasses().length == 0, "rule 2: classes inside " + c);
        }
        all.add(SnowMoney.class);
        for (Class<?> c : all) {
            int fields = 0;
            for (Field f : c.getDeclaredFields()) {
                boolean fixed = Modifier.isStatic(f.getModifiers());
                need(!fixed || Modifier.isFinal(f.getModifiers()), "rule 5: " + f);
                fields += fixed ? 0 : 1;
            }
            need(fields <= 20, "rule 11: " + fields + " fields in " + c);
            for (Method m : c.getDeclaredMethods()) {
                need(m.getParameterCount() <= 7, "rule 11: " + m);
            }
        }
    }

    private static int busy(SnowMoney x) {
        int sum = x.place(4) + x.place(9) + x.road(0, 1, 2);
        for (int i = 0; i < 10; i++) {
            sum += x.note(7 * i, 100 + i, i % 2, 0);
        }
        for (int i = 0; i < 30; i++) {
            sum += x.feed(0x2B792B77L, 4) + x.feed('h', 1) + x.text(0) + x.feed('5', 2) + x.text(1);
            sum += x.hours(1) + x.loose(1) + x.carry(i % 10, i % 2) + x.first(0) + x.keep(0, 60, 0) + x.pay(0, 50, 0);
            sum += x.lasts(0, 9) + x.way(0, 1, 0) + x.sheet(0, 8, 11) + x.forgers(0, 0) + x.richest(60, 0);
            sum += x.voice(6, 3, i) + x.image() + x.restore() + x.tell(1) + x.check() + x.judge(0) + x.snows(0);
        }
        return sum;
    }

    /** Calls make nothing: all rows are made in the constructor. */
    private static void room() {
        com.sun.management.ThreadMXBean bean = (com.sun.management.ThreadMXBean) ManagementFactory.getThreadMXBean();
        long id = Thread.currentThread().getId();
        busy(new SnowMoney());
        bean.getThreadAllocatedBytes(id);
        long start = bean.getThreadAllocatedBytes(id);
        SnowMoney x = new SnowMoney();
        long made = bean.getThreadAllocatedBytes(id);
        busy(x);
        long end = bean.getThreadAllocatedBytes(id);
        need(made - start < 40000, "room: a new object takes " + (made - start) + " bytes");
        need(end - made < 1000, "room: calls make " + (end - made) + " bytes");
    }
}
