import java.lang.reflect.InvocationTargetException;
import java.lang.reflect.Method;
import java.lang.reflect.Modifier;
import java.util.ArrayList;
import java.util.Comparator;
import java.util.List;
import java.util.Random;

/**
 * LANGUAGE.md, rules 7 and 13: calls with any numbers at all, in any order, never throw, and two objects that have
 * the same calls give the same answers, though a third one is used between them.
 */
public final class AnyCalls {
    private static final int RUNS = 1500;
    private static final int CALLS = 512;
    private static final int[] FAR = {Integer.MIN_VALUE, Integer.MIN_VALUE + 1, -65536, -10000, -100, -2, -1, 60, 61, 100, 399, 400, 401, 999,
        1000, 4095, 4096, 9999, 10000, 1 << 16, 1 << 28, 1 << 29, 1 << 30, Integer.MAX_VALUE - 1, Integer.MAX_VALUE};
    private static final String[] WORDS = {"hears ", "slips ", "bends ", " when ", " or ", " and ", " not ", "loud", "ear", "far", "pillars",
        "off", "note ", "wrong", "sounding", "beat", "at ", "player ", "seat ", "tune ", "hush ", "pillar ", ";", ";", "; ", "+", "-", "*", "/",
        "(", ")", "<", "=", ">", "0", "1 ", "2 ", "7", "999", "10000", " ", "\n", "\u00ff", "at 0 player 0 note 3;", "at 1 loud 0 9;",
        "hears loud*beat;", "slips 999 when not (far<1 or 1=1);", "pillar 3 3;"};
    private final Random random;

    private AnyCalls(long seed) {
        random = new Random(seed);
    }

    private int any() {
        switch (random.nextInt(8)) {
            case 0:
                return FAR[random.nextInt(FAR.length)];
            case 1:
                return random.nextInt();
            case 2:
                return random.nextInt(70);
            default:
                return random.nextInt(12);
        }
    }

    private static List<Method> face() {
        List<Method> face = new ArrayList<>();
        for (Method m : HearsayOrchestra.class.getDeclaredMethods()) {
            if (Modifier.isPublic(m.getModifiers())) {
                face.add(m);
            }
        }
        face.sort(Comparator.comparing(Method::getName));
        return face;
    }

    private Object[] told(Method m) {
        Object[] told = new Object[m.getParameterCount()];
        for (int i = 0; i < told.length; i++) {
            told[i] = m.getParameterTypes()[i] == boolean.class ? (Object) random.nextBoolean() : (Object) any();
        }
        return told;
    }

    /** Four bytes of what looks like a text, so that the reader comes further than to its first sign. */
    private Object[] words() {
        StringBuilder text = new StringBuilder();
        while (text.length() < 20) {
            text.append(WORDS[random.nextInt(WORDS.length)]);
        }
        Object[] five = new Object[5];
        for (int i = 0; i < 5; i++) {
            int v = 0;
            for (int j = 0; j < 4; j++) {
                v = v << 8 | text.charAt(4 * i + j);
            }
            five[i] = v;
        }
        return five;
    }

    private String run(List<Method> face) throws IllegalAccessException {
        HearsayOrchestra one = new HearsayOrchestra();
        HearsayOrchestra other = new HearsayOrchestra();
        HearsayOrchestra third = new HearsayOrchestra();
        StringBuilder story = new StringBuilder();
        for (int i = 0; i < CALLS; i++) {
            Method m = face.get(random.nextInt(face.size()));
            Object[] told = m.getName().equals("feed") && random.nextInt(4) > 0 ? words() : told(m);
            story.append(m.getName()).append(List.of(told)).append('\n');
            try {
                Object answer = m.invoke(one, told);
                Method between = face.get(random.nextInt(face.size()));
                between.invoke(third, told(between));
                Object again = m.invoke(other, told);
                if (!answer.equals(again)) {
                    return story + "answered " + answer + ", then " + again;
                }
            } catch (InvocationTargetException thrown) {
                return story + "threw " + thrown.getCause();
            }
        }
        return "";
    }

    public static void main(String[] args) throws IllegalAccessException {
        List<Method> face = face();
        int bad = 0;
        for (int seed = 1; seed <= RUNS && bad < 3; seed++) {
            String story = new AnyCalls(seed).run(face);
            if (!story.isEmpty()) {
                bad++;
                System.out.println("run " + seed + ":\n" + story);
            }
        }
        System.out.println(RUNS + " runs of " + CALLS + " calls, " + bad + " not as due");
        if (bad != 0) {
            System.exit(1);
        }
    }
}
