import java.io.IOException;
import java.lang.management.ManagementFactory;
import java.lang.reflect.Constructor;
import java.lang.reflect.Field;
import java.lang.reflect.Method;
import java.lang.reflect.Modifier;
import java.nio.file.Files;
import java.nio.file.Path;
import java.util.ArrayList;
import java.util.HashSet;
import java.util.List;
import java.util.Set;
import java.util.regex.Matcher;
import java.util.regex.Pattern;

/** What LANGUAGE.md rules out, as far as the file's text, the class's face and the heap show it. */
public final class LanguageRules {
    private static final String FACE = "state player set act beats feed end text fault of seat book goes all round cost desks"
            + " chord note series tune canon twice hunt finger fingers quarrel quarrels bars scale game undo image look";
    private static final int MOST_METHOD_LINES = 60;
    private static int wrong = 0;

    private static void no(boolean broken, String what) {
        if (broken) {
            wrong++;
            System.out.println(what);
        }
    }

    private static String withoutComments(String source) {
        return source.replaceAll("(?s)/\\*.*?\\*/", "").replaceAll("//[^\n]*", "");
    }

    private static String withoutTexts(String source) {
        return source.replaceAll("\"[^\"\n]*\"", "\"\"").replaceAll("'(\\\\.|[^'\\\\])'", "' '");
    }

    private static void words(String code) {
        String[] ruledOut = {"\\bthrow\\b", "\\bthrows\\b", "\\btry\\b", "\\bcatch\\b", "\\bfinally\\b", "\\bsynchronized\\b",
            "\\bassert\\b", "->", "::", "\\bimport\\b", "\\bpackage\\b", "\\bvar\\b", "\\bobject\\b", "\\bfloat\\b",
            "\\bdouble\\b", "\\bprotected\\b", "\"\"\\s*\\+", "\\+\\s*\"\"", "\\bThread\\b", "\\bRandom\\b", "Exact\\b",
            "System\\.(?!arraycopy)", "\\bhashCode\\b", "\\btoString\\b", "\\bnull\\b", "\\bstatic\\s*\\{", "\\bwhile \\(true\\)",
            "\\bfor \\([^:]*;\\s*;", "\\bnew \\w+\\([^;{]*\\) \\{", "\\[\\]\\s*\\[\\]\\s*\\["};
        for (String word : ruledOut) {
            Matcher m = Pattern.compile(word).matcher(code);
            no(m.find(), "the file has what is ruled out: " + word);
        }
    }

    private static void signs(String source) {
        for (int i = 0; i < source.length(); i++) {
            char sign = source.charAt(i);
            no(sign > 126 || sign < 32 && sign != '\n', "a sign of number " + (int) sign);
        }
        no(source.contains("\\u"), "a sign by its number in a text");
    }

    private static void methodLengths(String source) {
        String[] lines = source.split("\n");
        Pattern head = Pattern.compile("^( {4}| {8})(public|private|static|int|boolean|void|long)[^=;]*\\([^;]*\\) \\{$");
        for (int i = 0; i < lines.length; i++) {
            Matcher m = head.matcher(lines[i]);
            if (m.find()) {
                int end = i;
                while (end < lines.length && !lines[end].equals(m.group(1) + "}")) {
                    end++;
                }
                no(end - i + 1 > MOST_METHOD_LINES, "a long method: " + lines[i].trim());
            }
        }
    }

    private static void face(Class<?> outer) {
        Set<String> due = new HashSet<>(List.of(FACE.split(" ")));
        Set<String> there = new HashSet<>();
        for (Method m : outer.getDeclaredMethods()) {
            int mods = m.getModifiers();
            if (Modifier.isPublic(mods)) {
                there.add(m.getName());
            } else {
                no(!Modifier.isPrivate(mods), "neither public nor private: " + m);
                no(due.contains(m.getName()), "a private method with a public name: " + m);
            }
        }
        no(!there.equals(due), "the face is not the document's: " + there);
        for (Field f : outer.getDeclaredFields()) {
            no(!f.getName().equals("NONE") && !Modifier.isPrivate(f.getModifiers()), "a field that is not private: " + f);
        }
        Constructor<?>[] constructors = outer.getDeclaredConstructors();
        no(constructors.length != 1 || !Modifier.isPublic(constructors[0].getModifiers()), "the constructor");
        no(!Modifier.isFinal(outer.getModifiers()) || !Modifier.isPublic(outer.getModifiers()), "not public and final");
    }

    private static void inside(Class<?> outer) {
        Set<String> due = new HashSet<>(List.of(FACE.split(" ")));
        List<Class<?>> classes = new ArrayList<>(List.of(outer.getDeclaredClasses()));
        no(classes.size() + 1 > 12, "more than twelve classes");
        for (Class<?> c : classes) {
            no(!Modifier.isStatic(c.getModifiers()), "a class that is not static: " + c);
            for (Method m : c.getDeclaredMethods()) {
                no(due.contains(m.getName()), "a method inside with a public name: " + m);
            }
        }
        classes.add(outer);
        for (Class<?> c : classes) {
            int fields = 0;
            for (Field f : c.getDeclaredFields()) {
                boolean constant = Modifier.isStatic(f.getModifiers());
                fields += constant ? 0 : 1;
                no(constant && !Modifier.isFinal(f.getModifiers()), "static and not final: " + f);
            }
            no(fields > 20, "more than twenty fields: " + c);
            for (Method m : c.getDeclaredMethods()) {
                no(m.getParameterCount() > 7, "more than seven parameters: " + m);
            }
        }
    }

    private static int callAll(HearsayOrchestra x, int i) {
        int sum = x.state(i) + x.beats(3) + x.goes(9, i % 4) + x.all() + x.round(0, 47, i % 2) + x.desks(6, 1);
        x.feed(0x68656172, 0x7320322a, 0x6c6f7564, 0x3b202020, 0x20202020);
        sum += x.text(0) + x.fault(1) + x.of(0, i % 70) + x.seat(1, 1, 0) + x.book(i, 0) + x.chord(i % 4096, 0);
        sum += x.note(i % 13 - 1) + x.series(3, 1, NONE) + x.tune(i % 26 - 1) + x.canon(1, 1, 2) + x.twice(1) + x.hunt(8, 99, 3);
        sum += x.finger(i % 12 - 1) + x.fingers(1) + x.quarrel(i % 11 - 1, 3) + x.quarrels(2) + x.bars(40, i % 2) + x.scale(99, 1);
        sum += x.game(987, 610, i % 2) + x.look(i % 13) + x.player(5, 5, i % 8, i % 6);
        boolean b = x.undo() ^ x.image(i % 5 > 0) ^ x.set(2, 0, i % 50) ^ x.act(i % 4, i % 3, i % 12) ^ x.cost(0, 1, i % 10) ^ x.end(0);
        return b ? sum : -sum;
    }

    private static final int NONE = HearsayOrchestra.NONE;

    /** One object may be large, but calls make nothing anew: all of a run lives in one room. */
    private static void room() {
        com.sun.management.ThreadMXBean bean = (com.sun.management.ThreadMXBean) ManagementFactory.getThreadMXBean();
        long id = Thread.currentThread().getId();
        callAll(new HearsayOrchestra(), 1);
        long before = bean.getThreadAllocatedBytes(id);
        HearsayOrchestra x = new HearsayOrchestra();
        long made = bean.getThreadAllocatedBytes(id);
        int sum = 0;
        for (int i = 0; i < 40; i++) {
            sum += callAll(x, i);
        }
        long called = bean.getThreadAllocatedBytes(id);
        System.out.println("an object takes " + (made - before) + " bytes, its calls " + (called - made) + " (" + sum + ")");
        no(made - before > 100000, "an object is too large");
        no(called - made > 20000, "calls make objects");
    }

    public static void main(String[] args) throws IOException {
        Path root = Path.of(args.length > 0 ? args[0] : ".");
        String source = Files.readString(root.resolve("src/main/java/HearsayOrchestra.java"));
        words(withoutTexts(withoutComments(source)));
        signs(source);
        methodLengths(source);
        face(HearsayOrchestra.class);
        inside(HearsayOrchestra.class);
        room();
        System.out.println(wrong + " rules broken");
        if (wrong != 0) {
            System.exit(1);
        }
    }
}
