import java.io.IOException;
import java.lang.reflect.Constructor;
import java.lang.reflect.Field;
import java.lang.reflect.Method;
import java.lang.reflect.Modifier;
import java.math.BigInteger;
import java.nio.file.Path;
import java.util.ArrayList;
import java.util.Collections;
import java.util.List;
import java.util.TreeSet;

/**
 * The document from its first line to its last: tests of the sentences that the tests of boundary cases leave,
 * and that there is none that promises something and is quoted by no test.
 */
public final class EverySentence {
    private static final int NONE = Bench.NONE;
    private static final int MIN = Bench.MIN;
    private static final int MAX = Bench.MAX;
    private static final int MOST_CALLS = 512;
    /** What the document leaves free. */
    private static final List<String> FREE = List.of(
            "How the state is held inside the object is free, as are the speed of each call, the text of toString"
                    + " and the behaviour of equals and hashCode.",
            "Use of one object from several threads at once is not promised to be safe.");

    private static void due(int got, int want) {
        Bench.due(got, want);
    }

    private static void yes(boolean got) {
        Bench.yes(got);
    }

    private static void none(int got) {
        Bench.none(got);
    }

    private static void good(Counted x, int k, String text, int lines) {
        Bench.good(x, k, text, lines);
    }

    private static void lines(Counted x, int... due) {
        due(x.look(4), due.length / 4);
        for (int i = 0; i < due.length; i++) {
            due(x.book(i / 4, i % 4), due[i]);
        }
    }

    private static void notes(Counted x, int... due) {
        for (int p = 0; p < due.length; p++) {
            due(x.of(p, 4), due[p]);
        }
    }

    private static void offs(Counted x, int... due) {
        for (int p = 0; p < due.length; p++) {
            due(x.of(p, 5), due[p]);
        }
    }

    // ---------------------------------------------------------------- what it is

    /** Four at desks one behind the other, each of whom hears who is beside him alone. */
    private static Counted desks(String law) {
        Counted x = Scenes.empty();
        x.player(9, 0, 0, 0);
        x.player(9, 7, 1, 0);
        x.player(9, 0, 2, 0);
        x.player(9, 0, 3, 0);
        Bench.tell(x, 0, "hears 9 when far=1; hears 0;" + law);
        return x;
    }

    private static void whatItIs() {
        Bench.test("Orchestras seated by hearing: one player has the part and each other plays a beat later what he hears loudest from his seat", () -> {
            Counted x = desks("slips 0;");
            good(x, 1, "at 0 player 0 note 3; at 1 player 0 note 5; at 2 player 0 note 7; at 3 player 0 note 2; at 4 player 0 note 11;", 5);
            int[][] played = {{3, NONE, NONE, NONE}, {5, 3, NONE, NONE}, {7, 5, 3, NONE}, {2, 7, 5, 3}, {11, 2, 7, 5}};
            for (int[] notes : played) {
                due(x.beats(1), 0);
                notes(x, notes);
            }
        });
        Bench.test("pillars in the way", () -> {
            Counted x = Scenes.empty();
            x.player(9, 0, 0, 0);
            x.player(8, 0, 7, 0);
            x.player(1, 0, 4, 0);
            x.act(2, 0, 1);
            x.act(2, 1, 2);
            // 180 - 40 of 0, 160 - 30 of 1, each less 30 by a pillar in the way.
            String[] pillars = {"", "pillar 2 0;", "pillar 2 0; pillar 5 0;", "pillar 2 1;", "pillar 5 0;"};
            int[] followed = {0, 1, 0, 0, 0};
            for (int i = 0; i < pillars.length; i++) {
                Bench.tell(x, 3, pillars[i]);
                due(x.of(2, 8), followed[i]);
            }
            Bench.tell(x, 3, pillars[1]);
            x.beats(1);
            due(x.of(2, 6), 1);
        });
        Bench.test("ears bent towards whom they follow, wrong notes that come on from desk to desk", () -> {
            Counted x = slippery();
            int[][] offs = {{30, 0, 0, 0}, {30, 10, 0, 0}, {30, 20, 10, 0}, {30, 30, 20, 10}};
            int[][] notes = {{3, NONE, NONE, NONE}, {3, 4, NONE, NONE}, {3, 4, 4, NONE}, {3, 4, 4, 4}};
            for (int i = 0; i < 4; i++) {
                due(x.beats(1), i == 0 ? 0 : 1);
                offs(x, offs[i]);
                notes(x, notes[i]);
                due(x.of(1, 7), i);
            }
            due(x.of(2, 7) + x.of(3, 7), 0);
        });
        Bench.test("so a symphony is a matter of who sits where", () -> {
            Counted x = desks("slips 0;");
            yes(x.act(0, 3, 8));
            good(x, 1, "at 0 player 0 note 3; at 1 player 0 note 5; at 2 player 0 note 7;", 3);
            x.beats(2);
            notes(x, 5, 3, NONE, 3);
            x.beats(1);
            notes(x, 7, 5, 3, 5);
        });
        Bench.test("how loud one is heard, how likely a note slips, how far an ear bends by a law that is told as a text;"
                + " a score by beats, a stage by beats, pillars as texts", () -> {
            Counted x = Scenes.three();
            good(x, 0, "hears loud*10; slips 7*ear; bends 3;", 3);
            due(x.of(0, 11), 50);
            due(x.of(0, 31), 35);
            due(x.of(0, 51), 3);
            good(x, 1, "at 1 player 2 note 8;", 1);
            good(x, 2, "at 1 loud 2 1;", 1);
            good(x, 3, "pillar 1 0;", 1);
            x.beats(1);
            none(x.of(2, 4));
            due(x.of(2, 0), 3);
            x.beats(1);
            due(x.of(2, 4), 8);
            due(x.of(2, 0), 1);
        });
        Bench.test("beats on which each that has no part follows one who sounded just ahead, notes slip by draws, tunings bend,"
                + " all come to one note or to none", () -> {
            Counted x = Scenes.three();
            Bench.tell(x, 0, "slips 0;");
            x.act(2, 0, 5);
            x.beats(1);
            notes(x, NONE, 5, 5);
            x.beats(1);
            notes(x, 5, 5, 5);
            x.beats(60);
            notes(x, 5, 5, 5);
            due(x.look(2), 62);
            Bench.tell(x, 0, "hears 0;");
            x.beats(1);
            notes(x, NONE, NONE, NONE);
            due(x.look(2), 62);
        });
        Bench.test("a book in which each note is led to its mouth", () -> {
            Counted x = slippery();
            due(x.beats(4), 3);
            lines(x, 0, 2, 0, 3, 1, 0, 1, 4, 1, 2, 1, 4, 2, 0, 1, 4, 2, 2, 2, 4, 3, 0, 1, 4, 3, 2, 3, 4);
        });
        inThought();
        Bench.test("all undone that was done, and an image from which all goes on", () -> {
            Counted x = Scenes.two();
            yes(x.image(true));
            x.act(2, 0, 1);
            x.beats(2);
            due(x.of(0, 4), 1);
            due(x.look(2), 0);
            yes(x.undo());
            due(x.of(1, 4), 1);
            yes(x.undo());
            yes(x.undo());
            notes(x, NONE, NONE);
            due(x.look(3) + x.look(4), 0);
            x.act(2, 1, 9);
            yes(x.image(false));
            notes(x, NONE, NONE);
            yes(x.act(2, 0, 2));
            x.beats(1);
            notes(x, NONE, 2);
        });
    }

    /** The second of four slips on each beat, whose EAR is 7. */
    private static Counted slippery() {
        Counted x = desks("slips 1000 when ear=7; slips 0; bends 10;");
        good(x, 1, "at 0 player 0 note 3; at 1 player 0 note 3; at 2 player 0 note 3; at 3 player 0 note 3;", 4);
        x.set(2, 0, 30);
        return x;
    }

    private static void inThought() {
        Bench.test("in thought how beats go, when all sound, how sound goes round pillars, who sits beside whom at the least cost,"
                + " to which set a chord comes down, what a row of twelve is from behind, how a tune goes against itself, how bells hunt,"
                + " what comes twice, which fingers it takes, who can play together, how bars are set, how a scale is built,"
                + " a game of taking the lesser from the greater", () -> {
            Counted x = Scenes.three();
            Bench.tell(x, 0, "slips 0;");
            Bench.tell(x, 3, "pillar 1 0;");
            x.act(2, 0, 5);
            due(x.goes(2, 0), 3);
            due(x.all(), 2);
            due(x.round(0, 2, 0), 4);
            x.cost(0, 1, 5);
            x.cost(0, 2, 3);
            x.cost(1, 2, 1);
            due(x.desks(3, 0), 10);
            due(x.desks(3, 1), 102);
            due(x.chord(145, 0), 137);
            for (int i = 0; i < 12; i++) {
                x.note(i * 5 % 12);
            }
            for (int i = 0; i < 12; i++) {
                due(x.series(2, 0, i), (11 - i) * 5 % 12);
            }
            int[] tune = {0, 4, 0, 4, 7};
            for (int v : tune) {
                x.tune(v);
            }
            due(x.canon(2, 0, 1), 3);
            due(x.hunt(3, 2, NONE), 2);
            due(x.twice(0), 2);
            x.finger(5);
            x.finger(24);
            due(x.fingers(0), 10);
            x.quarrel(0, 1);
            due(x.quarrels(0), 9);
            due(x.bars(7, 0), 3);
            due(x.scale(145, 0), 1);
            due(x.game(8, 3, 0), 2);
        });
    }

    // ---------------------------------------------------------------- the object and its face

    private static void theObject() {
        Bench.test("An object is used for at most 512 calls after it has been made; what later calls answer is free.", () -> {
            // Free, but no call throws or fails to end.
            HearsayOrchestra x = new HearsayOrchestra();
            x.player(9, 9, 0, 0);
            x.player(9, 9, 1, 0);
            for (int i = 0; i < 4 * MOST_CALLS; i++) {
                x.act(2, i % 2, i % 12);
                x.beats(60);
                x.undo();
                x.image(i % 3 == 0);
                x.feed(i, i, i, i, i);
                x.text(i % 4);
            }
        });
        Bench.test("Nothing is promised beyond the answers and state changes described above, and nothing about an object after its 512th call.",
                () -> {
            // What one object was told is not known to another one.
            Counted x = Scenes.rich();
            Counted y = Scenes.empty();
            due(x.look(0), 4);
            for (int what = 0; what <= 11; what++) {
                due(y.look(what), 0);
            }
            due(y.series(0, 0, NONE), 0);
            due(y.desks(6, 0), 0);
            due(y.fingers(0), 0);
            due(y.quarrels(0), 10);
            Bench.no(y.image(false));
            Bench.no(y.end(1));
        });
        Bench.test("public final class HearsayOrchestra {", EverySentence::face);
    }

    private static String typesOf(Class<?>[] types) {
        List<String> names = new ArrayList<>();
        for (Class<?> type : types) {
            names.add(type.getSimpleName());
        }
        return names.toString();
    }

    /** The document's lines with the names of what is handed over left away, and the class's own, are alike. */
    private static void face() {
        String block = Bench.document().replaceAll(".*```java (.*?) ```.*", "$1");
        TreeSet<String> due = new TreeSet<>();
        for (String line : block.replaceAll(".*?\\{|\\}", "").split(";")) {
            String plain = line.trim().replaceAll("\\b(int|boolean) [a-z]+(?=[,)])", "$1");
            if (!plain.isEmpty()) {
                due.add(plain.replace("(", " [").replace(")", "]"));
            }
        }
        TreeSet<String> there = new TreeSet<>();
        Class<?> c = HearsayOrchestra.class;
        for (Method m : c.getDeclaredMethods()) {
            if (!Modifier.isPrivate(m.getModifiers())) {
                there.add(Modifier.toString(m.getModifiers()) + " " + m.getReturnType().getSimpleName() + " " + m.getName() + " "
                        + typesOf(m.getParameterTypes()));
            }
        }
        for (Constructor<?> made : c.getDeclaredConstructors()) {
            there.add(Modifier.toString(made.getModifiers()) + " " + c.getSimpleName() + " " + typesOf(made.getParameterTypes()));
        }
        for (Field f : c.getDeclaredFields()) {
            if (!Modifier.isPrivate(f.getModifiers())) {
                there.add(Modifier.toString(f.getModifiers()) + " " + f.getType().getSimpleName() + " " + f.getName() + " = " + HearsayOrchestra.NONE);
            }
        }
        if (!due.equals(there) || due.size() != 36) {
            Bench.fail("the face is " + there + ", due is " + due);
        }
        due(c.getModifiers(), Modifier.PUBLIC | Modifier.FINAL);
        due(c.getConstructors().length, 1);
        due(c.getInterfaces().length, 0);
    }

    // ---------------------------------------------------------------- terms

    private static void numbers() {
        Bench.test("Quotients go downwards.", () -> {
            // So what is modulo 12 is 0 .. 11: 2 * 0 - 11 is 1, 2 * 1 - 11 is 3, 2 * 2 - 11 is 5.
            for (int first = 0; first < 3; first++) {
                Counted x = Scenes.empty();
                x.note(first);
                x.note(11);
                due(x.series(1, 0, 1), 2 * first + 1);
                due(x.series(3, 11, 0), 2 * first);
                due(x.series(0, 0, NONE), 1);
            }
        });
        Bench.test("a DRAW of m: it becomes 1664525 times itself + 1013904223 (ints, which wrap), then it is its highest 24 bits (without sign) modulo m.",
                () -> {
            // Who has the part draws nothing, who follows him draws once on each beat but for the first.
            StringBuilder part = new StringBuilder();
            for (int i = 0; i < 16; i++) {
                part.append("at ").append(i).append(" player 0 note 3;");
            }
            int[] states = {0, 1, -1, MIN, MAX, 12345, -1515193845, 1 << 30, 255, 256, -256};
            int[] limits = {1, 250, 500, 999};
            for (int state : states) {
                for (int limit : limits) {
                    Counted x = Scenes.two();
                    good(x, 1, part.toString(), 16);
                    good(x, 0, "slips " + limit + ";", 1);
                    x.state(state);
                    BigInteger s = BigInteger.valueOf(state);
                    int below = 0;
                    for (int i = 0; i < 15; i++) {
                        s = s.multiply(BigInteger.valueOf(1664525)).add(BigInteger.valueOf(1013904223)).mod(BigInteger.ONE.shiftLeft(32));
                        below += s.shiftRight(8).mod(BigInteger.valueOf(1000)).intValue() < limit ? 1 : 0;
                    }
                    due(x.beats(16), below);
                    due(x.look(5), s.intValue());
                    due(x.of(1, 7), below);
                }
            }
        });
    }

    private static void texts() {
        Bench.test("2 (at the NUMBER) a part by 0; one beyond its bounds; a PLAYER that there is not; a SEAT on which a PLAYER sits (of PILLARS, at Y).", () -> {
            Counted x = Scenes.three();
            String[] ahead = {"at ", "at 0 player ", "at 0 player 0 note ", "at ", "at 0 seat ", "at 0 seat 0 ", "at 0 seat 0 0 ", "at 0 loud ",
                "at 0 loud 0 ", "at 0 tune ", "at 0 hush ", "pillar ", "pillar 4 "};
            String[] behind = {" player 0 note 0;", " note 0;", ";", " hush 0;", " 0 0;", " 0;", ";", " 1;", ";", ";", ";", " 4;", ";"};
            int[] most = {999, 2, 11, 999, 2, 7, 5, 2, 9, 2, 2, 7, 5};
            for (int i = 0; i < ahead.length; i++) {
                int k = i < 3 ? 1 : i < 11 ? 2 : 3;
                good(x, k, ahead[i] + most[i] + behind[i], 1);
                Bench.bad(x, k, ahead[i] + (most[i] + 1) + behind[i], 2, ahead[i].length());
                Bench.bad(x, k, ahead[i] + 9999 + behind[i], 2, ahead[i].length());
                // Of what is wrong behind it nothing is told.
                Bench.bad(x, k, ahead[i] + 9999 + "x", 2, ahead[i].length());
            }
            Bench.bad(x, 0, "hears 1/0*1/0;", 2, 8);
            Bench.bad(x, 0, "hears 1 when 2/1=2/0;", 2, 19);
            Bench.bad(x, 3, "pillar 1 1; pillar 2 2;", 2, 21);
        });
        Bench.test("What THE LAW tells of one who listens and another one for a word: E of the first line with that word whose B is so, or that has none",
                () -> {
            Counted x = Scenes.three();
            good(x, 0, "hears 10*ear+loud; slips 10*loud+ear; bends far;", 3);
            int[] louds = {9, 5, 3};
            int[] ears = {5, 3, 9};
            int[][] far = {{0, 2, 4}, {2, 0, 2}, {4, 2, 0}};
            for (int p = 0; p < 3; p++) {
                for (int q = 0; q < 3; q++) {
                    if (p != q) {
                        due(x.of(p, 10 + q), 10 * ears[p] + louds[q]);
                        due(x.of(p, 30 + q), 10 * louds[q] + ears[p]);
                        due(x.of(p, 50 + q), far[p][q]);
                    }
                }
            }
            // Each word has its own first line, which differs from couple to couple.
            good(x, 0, "bends 1 when loud=9; hears 2 when loud=9; slips 3 when ear=9; hears 4; bends 5 when ear=9; slips 6;", 6);
            int[][] told = {{1, 2, 4, 6, 5}, {1, 0, 2, 6, 1}, {2, 0, 2, 3, 1}, {2, 1, 4, 3, 5}, {1, 2, 4, 6, 3}};
            for (int[] t : told) {
                due(x.of(t[0], 10 + t[1]), t[2]);
                due(x.of(t[0], 30 + t[1]), t[3]);
                if (t != told[0]) {
                    due(x.of(t[0], 50 + t[1]), t[4]);
                }
            }
        });
    }

    private static void aBeat() {
        Bench.test("AFTER is that one, NOTE is his, bends is asked of him and that one: OFF comes so much nearer to his OFF (not beyond)", () -> {
            Counted x = Scenes.three();
            good(x, 0, "slips 0; bends 10*ear+loud when ear<9; bends 2;", 3);
            x.act(2, 0, 11);
            x.set(2, 0, 50);
            x.set(2, 2, 49);
            x.beats(1);
            // EAR 3 and LOUD 9: 39; EAR 9: 2, but OFF 50 is 1 away.
            notes(x, NONE, 11, 11);
            due(x.of(1, 6), 0);
            due(x.of(2, 6), 0);
            none(x.of(0, 6));
            offs(x, 50, 39, 50);
            x.set(2, 0, -50);
            x.act(2, 0, 4);
            x.beats(1);
            // 0 hears 1 most of those who sounded, 1 and 2 hear 0: from 39 and 50 to -50, from -50 to 39 by 55, held to 50.
            notes(x, 11, 4, 4);
            offs(x, 0, 0, 48);
            due(x.of(0, 6), 1);
        });
        Bench.test("By hand: to SEAT a PLAYER (on another SEAT that is free)", () -> {
            Counted x = Scenes.two();
            x.set(2, 1, 9);
            yes(x.act(0, 0, 47));
            yes(x.act(0, 0, 0));
            yes(x.act(1, 1, 0));
            yes(x.act(2, 0, 5));
            yes(x.act(2, 1, 5));
            yes(x.act(3, 0, 0));
            // No BEAT, no line, no unison, no draw.
            due(x.look(2), 0);
            due(x.look(3), 0);
            due(x.look(4), 0);
            due(x.look(5), 0);
            due(x.look(11), 6);
        });
        Bench.test("behind its STAGE, PLAYER by PLAYER, 0 ahead of 2 (by SCORE, too; the NOTE behind slipping)", () -> {
            Counted x = desks("");
            good(x, 0, "slips 1000; hears 9;", 2);
            good(x, 1, "at 1 player 1 note 2; at 0 player 3 note 6;", 2);
            due(x.beats(2), 2);
            lines(x, 0, 2, 3, 6, 1, 0, 0, 7, 1, 2, 0, 7, 1, 2, 1, 2, 1, 0, 2, 7, 1, 2, 2, 7, 1, 1, 3, 6);
        });
    }

    private static void thought() {
        Bench.test("HUNT of n (3 .. 8) bells 0, 1, ..: change by change couples at places 0 and 1, 2 and 3, .. change,"
                + " then those at 1 and 2, 3 and 4, .., and so on by turns", () -> {
            for (int n = 3; n <= 8; n++) {
                List<Integer> row = new ArrayList<>();
                for (int i = 0; i < n; i++) {
                    row.add(i);
                }
                Counted x = Scenes.empty();
                for (int k = 0; k < 100; k++) {
                    x = x.calls() + n + 1 > MOST_CALLS ? Scenes.empty() : x;
                    int out = 0;
                    for (int i = 0; i < n; i++) {
                        due(x.hunt(n, k, i), row.get(i));
                        for (int j = i + 1; j < n; j++) {
                            out += row.get(i) > row.get(j) ? 1 : 0;
                        }
                    }
                    due(x.hunt(n, k, NONE), out);
                    for (int i = k % 2; i + 1 < n; i += 2) {
                        Collections.swap(row, i, i + 1);
                    }
                }
            }
        });
        Bench.test("GAME of two numbers a, b (1 .. 999): two by turns take the lesser one from the greater, once or more times,"
                + " as often as it goes; who brings one to 0 wins: how many times who begins takes it (the least that wins; NONE: loses);"
                + " how many takings it is at the fewest till one is 0, if both help.", EverySentence::allGames);
        Bench.test("`int all()`: ALL.", () -> {
            Counted x = desks("slips 1000;");
            none(x.all());
            x.act(2, 0, 3);
            // 0 and 2 sound by turns with 1 and 3.
            none(x.all());
            good(x, 1, "at 0 player 0 note 3; at 1 player 0 note 3; at 2 player 0 note 3;", 3);
            due(x.all(), 3);
            x.beats(1);
            due(x.all(), 2);
            good(x, 2, "at 1 hush 0; at 1 hush 1; at 1 hush 2;", 3);
            good(x, 1, "", 0);
            none(x.all());
        });
    }

    /** Every game, each by trying all takings, told from the least sum on. */
    private static void allGames() {
        int most = 999;
        int[][] wins = new int[most + 1][most + 1];
        int[][] takings = new int[most + 1][most + 1];
        HearsayOrchestra x = new HearsayOrchestra();
        int calls = 0;
        int wrong = 0;
        for (int a = 1; a <= most; a++) {
            for (int b = 1; b <= a; b++) {
                wins[a][b] = NONE;
                takings[a][b] = MAX;
                for (int times = a / b; times >= 1; times--) {
                    int great = Math.max(a - times * b, b);
                    int less = Math.min(a - times * b, b);
                    wins[a][b] = less == 0 || wins[great][less] == NONE ? times : wins[a][b];
                    takings[a][b] = Math.min(takings[a][b], 1 + (less == 0 ? 0 : takings[great][less]));
                }
                if (calls + 4 > MOST_CALLS) {
                    x = new HearsayOrchestra();
                    calls = 0;
                }
                calls += 4;
                boolean right = x.game(a, b, 0) == wins[a][b] && x.game(b, a, 0) == wins[a][b]
                        && x.game(a, b, 1) == takings[a][b] && x.game(b, a, 1) == takings[a][b];
                wrong += right ? 0 : 1;
            }
        }
        Bench.due("all games", wrong, 0);
    }

    // ---------------------------------------------------------------- undo, and the promises' own words

    private static void undo() {
        Bench.test("UNDO: the latest BEAT, SEATING, TUNING, STRIKING, HUSHING by hand not undone yet goes back (STATE, THE BOOK, too): 6 are kept;"
                + " whatever else is told but THE LAW and what is told for thought (DESKS, SERIES, CANON, FINGERS, QUARRELS)"
                + " (feed(), end(), what is refused, a text with a FAULT, the taking of THE IMAGE do not) forgets them.", () -> {
            Counted x = doneSix();
            due(x.look(11), 6);
            due(x.look(5), 1013904223);
            // HUSHING, BEAT, SEATING, STRIKING, TUNING, STRIKING, each of which shows that it goes back.
            int[][] asks = {{1, 4}, {1, 4}, {0, 3}, {0, 4}, {0, 5}, {0, 4}};
            int[] then = {4, NONE, 0, 2, 5, 3};
            for (int i = 0; i < 6; i++) {
                yes(x.undo());
                due(x.of(asks[i][0], asks[i][1]), then[i]);
                due(x.look(11), 5 - i);
                due(x.look(5), i == 0 ? 1013904223 : 0);
                due(x.look(4), i == 0 ? 2 : 0);
                due(x.look(3), i == 0 ? 1 : 0);
            }
            Bench.no(x.undo());
            due(x.of(0, 4), 3);
            // The seventh was lost, what was told for thought and the law are left.
            due(x.desks(2, 0), 9);
            due(x.of(1, 30), 1);
            Bench.Doing[] forget = {y -> y.state(0), y -> y.player(1, 1, 5, 5), y -> y.set(0, 0, 1), y -> y.text(1), y -> y.text(2),
                y -> y.text(3), y -> y.image(false)};
            for (Bench.Doing call : forget) {
                Counted y = doneSix();
                call.on(y);
                due(y.look(11), 0);
                Bench.no(y.undo());
            }
        });
    }

    /** Seven things done by hand and by a beat, of which six are kept, and between them what does not forget. */
    private static Counted doneSix() {
        Counted x = Scenes.two();
        good(x, 0, "slips 1;", 1);
        x.set(2, 0, 5);
        yes(x.act(2, 0, 3));
        x.cost(0, 1, 9);
        x.note(4);
        yes(x.act(2, 0, 2));
        x.tune(4);
        x.finger(4);
        yes(x.act(1, 0, 0));
        x.quarrel(4, 5);
        yes(x.act(2, 0, 4));
        yes(x.act(2, 0, 6));
        yes(x.undo());
        Bench.no(x.act(2, 0, 4));
        Bench.bad(x, 1, "x", 1, 0);
        yes(x.act(0, 0, 8));
        yes(x.image(true));
        x.feed(0, 0, 0, 0, 0);
        x.end(0);
        due(x.beats(1), 0);
        yes(x.act(3, 1, 0));
        return x;
    }

    private static void promises() {
        Bench.test("A PLAYER: the number; NONE if one can't be (the SEAT is not free), or there are twelve.", () -> {
            Counted x = Scenes.empty();
            good(x, 3, "pillar 3 3;", 1);
            int[][] told = {{1, 0, 0, 0}, {9, 9, 7, 5}, {5, 5, 0, 5}};
            for (int i = 0; i < 3; i++) {
                due(x.player(told[i][0], told[i][1], told[i][2], told[i][3]), i);
                none(x.player(told[i][0], told[i][1], told[i][2], told[i][3]));
                none(x.player(5, 5, 3, 3));
                due(x.look(0), i + 1);
                for (int what = 0; what < 4; what++) {
                    due(x.of(i, what), told[i][what]);
                }
            }
            none(Scenes.twelve().player(1, 0, 7, 5));
        });
        Bench.test("What 0 to SEAT PLAYER who on v (8 y and x), 1 to TUNE him, 2 to STRIKE NOTE v, 3 to HUSH him (1, 3: v not asked): true", () -> {
            Counted x = Scenes.two();
            yes(x.act(0, 1, 47));
            for (int v = 1; v < 47; v++) {
                yes(x.act(0, 0, v));
                due(x.of(0, 2), v % 8);
                due(x.of(0, 3), v / 8);
                due(x.seat(v % 8, v / 8, 0), 0);
            }
            for (int v = 0; v < 12; v++) {
                yes(x.act(2, 1, v));
                due(x.of(1, 4), v);
                none(x.of(0, 4));
            }
            int[] unasked = {MIN, -1, 0, 5, 48, MAX};
            for (int v : unasked) {
                x.set(2, 0, -7);
                yes(x.act(1, 0, v));
                due(x.of(0, 5), 0);
                yes(x.act(3, 1, v));
                none(x.of(1, 4));
                yes(x.act(2, 1, 3));
            }
        });
        Bench.test("Of a PLAYER what 0 LOUD, 1 EAR, 2 x, 3 y, 4 NOTE (NONE), 5 OFF, 6 AFTER (NONE), 7 WRONG", () -> {
            Counted x = Scenes.three();
            good(x, 0, "slips 1000 when ear=9; slips 0; bends 4;", 3);
            x.set(2, 0, 20);
            x.act(2, 0, 11);
            x.beats(1);
            int[][] all = {{9, 5, 0, 0, NONE, 20, NONE, 0}, {5, 3, 2, 0, 11, 4, 0, 0}, {3, 9, 2, 2, 0, 4, 0, 1}};
            for (int p = 0; p < 3; p++) {
                for (int what = 0; what < 8; what++) {
                    due(x.of(p, what), all[p][what]);
                }
            }
        });
    }

    /** The whole document is quoted, but for what orders it and what it leaves free. */
    private static void nothingLeft(Path tests) throws IOException {
        Bench.about("DOC.md from its first line");
        for (String piece : Quotes.missing(Bench.document(), Quotes.of(tests), FREE)) {
            Bench.fail("no test quotes '" + piece + "'");
        }
        for (String free : FREE) {
            if (!Bench.document().isEmpty() && !Bench.document().contains(free)) {
                Bench.fail("the document does not leave it free: " + free);
            }
        }
    }

    public static void main(String[] args) throws IOException {
        Bench.open(args);
        whatItIs();
        theObject();
        numbers();
        texts();
        aBeat();
        thought();
        undo();
        promises();
        nothingLeft(Path.of(args.length > 0 ? args[0] : ".").resolve("src/test/java"));
        Bench.close();
    }
}
