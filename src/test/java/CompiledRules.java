import java.io.IOException;
import java.lang.reflect.Modifier;
import java.util.ArrayDeque;
import java.util.ArrayList;
import java.util.Deque;
import java.util.HashMap;
import java.util.HashSet;
import java.util.List;
import java.util.Map;
import java.util.Set;
import java.util.TreeSet;

/** What LANGUAGE.md asks of calls, objects and instructions, as the compiled class shows it: rules 3, 4, 5, 6, 8, 11, 12, 13. */
public final class CompiledRules {
    private static final int MOST_DEEP = 8;
    /** The library that rule 4 leaves, as far as a method of it may be called here at all. */
    private static final Map<String, String> LIBRARY = Map.of(
            "java/lang/Object", " <init> ",
            "java/lang/String", " length charAt isEmpty equals indexOf substring toCharArray <init> ",
            "java/lang/StringBuilder", " <init> append charAt setCharAt setLength deleteCharAt reverse length toString ",
            "java/lang/Math", " max min abs floorDiv floorMod ",
            "java/lang/Integer", " compare max min abs bitCount highestOneBit lowestOneBit numberOfLeadingZeros numberOfTrailingZeros ",
            "java/lang/Long", " compare max min abs bitCount highestOneBit lowestOneBit numberOfLeadingZeros numberOfTrailingZeros ",
            "java/lang/System", " arraycopy ",
            "java/util/Arrays", " copyOf copyOfRange fill ");
    private static final Map<String, ClassFile.Method> METHODS = new HashMap<>();
    private static final Map<String, Set<String>> CALLED = new HashMap<>();
    private static int wrong = 0;
    private static int asked = 0;

    private static void no(boolean broken, String what) {
        asked++;
        if (broken) {
            wrong++;
            System.out.println(what);
        }
    }

    private static void read(Class<?> c) throws IOException {
        ClassFile file = ClassFile.of(c);
        no(!file.name.equals(c.getName()), "the file of another class: " + file.name);
        for (ClassFile.Method m : file.methods) {
            METHODS.put(m.key(), m);
        }
        for (Class<?> inner : c.getDeclaredClasses()) {
            read(inner);
        }
    }

    private static void instructions(ClassFile.Method m) {
        int[] ruledOut = {ClassFile.ATHROW, ClassFile.INVOKEDYNAMIC, ClassFile.MONITORENTER};
        for (int opcode : ruledOut) {
            no(m.opcodes().contains(opcode), "instruction " + opcode + " in " + m.key());
        }
        no(m.handlers() > 0, "something is caught in " + m.key());
        no(m.name().equals("<clinit>"), "a static initialiser: " + m.key());
        no(m.type().replaceAll("L[^;]*;", "").matches(".*[FD].*"), "a number with a point: " + m.key());
        no(Modifier.isNative(m.access()) || Modifier.isSynchronized(m.access()), "native or synchronized: " + m.key());
    }

    /** Rows are made with the object: what is made in a loop or in a call would be counted anew each time. */
    private static void makes(ClassFile.Method m) {
        no(m.makesSomething() && !m.name().equals("<init>"), "a call makes something anew: " + m.key());
    }

    private static void calls(ClassFile.Method m) {
        Set<String> own = new TreeSet<>();
        for (ClassFile.Named n : m.named()) {
            if (n.isCall() && METHODS.containsKey(n.key())) {
                own.add(n.key());
            } else if (n.isCall()) {
                no(!LIBRARY.getOrDefault(n.owner(), "").contains(" " + n.name() + " "), m.key() + " calls " + n.key());
            } else if (n.opcode() < 182) {
                no(!n.owner().startsWith("HearsayOrchestra"), m.key() + " looks at " + n.key());
            }
        }
        CALLED.put(m.key(), own);
    }

    private static Set<String> reached(String from) {
        Set<String> reached = new HashSet<>();
        Deque<String> left = new ArrayDeque<>(CALLED.get(from));
        while (!left.isEmpty()) {
            String next = left.pop();
            if (reached.add(next)) {
                left.addAll(CALLED.get(next));
            }
        }
        return reached;
    }

    /** Who calls one another have the same number, so that going round in a recursion counts each of them once. */
    private static void recursions() {
        Set<String> round = new TreeSet<>();
        for (String key : CALLED.keySet()) {
            if (reached(key).contains(key)) {
                round.add(METHODS.get(key).name());
                no(!Modifier.isPrivate(METHODS.get(key).access()), "a recursion of what is not private: " + key);
            }
        }
        no(!round.equals(Set.of("readClause", "readEither")), "a recursion that the tests do not know: " + round);
    }

    private static List<String> deepest(String from, List<String> open) {
        List<String> best = new ArrayList<>(open);
        best.add(from);
        List<String> here = List.copyOf(best);
        for (String next : CALLED.get(from)) {
            if (!here.contains(next)) {
                List<String> chain = deepest(next, here);
                best = chain.size() > best.size() ? chain : best;
            }
        }
        return best;
    }

    private static void depths() {
        int most = 0;
        for (ClassFile.Method m : METHODS.values()) {
            if (Modifier.isPublic(m.access())) {
                List<String> chain = deepest(m.key(), List.of());
                most = Math.max(most, chain.size());
                no(chain.size() > MOST_DEEP, "calls go deeper than " + MOST_DEEP + ": " + chain);
            }
        }
        System.out.println("calls go " + most + " deep");
    }

    public static void main(String[] args) throws IOException {
        read(HearsayOrchestra.class);
        for (ClassFile.Method m : METHODS.values()) {
            instructions(m);
            makes(m);
            calls(m);
        }
        recursions();
        depths();
        System.out.println(METHODS.size() + " methods, " + asked + " questions, " + wrong + " rules broken");
        if (wrong != 0) {
            System.exit(1);
        }
    }
}
