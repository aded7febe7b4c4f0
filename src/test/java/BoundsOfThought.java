import java.io.IOException;

/** Boundary cases of what is answered IN THOUGHT and of what is told for it: promises 14 to 32. */
public final class BoundsOfThought {
    private static final int NONE = Bench.NONE;
    private static final int MIN = Bench.MIN;
    private static final int MAX = Bench.MAX;

    private static void due(int got, int want) {
        Bench.due(got, want);
    }

    private static void yes(boolean got) {
        Bench.yes(got);
    }

    private static void none(int got) {
        Bench.none(got);
    }

    private static void good(Counted x, int k, String text, int lines) {
        Bench.good(x, k, text, lines);
    }

    private static Counted row(int... notes) {
        Counted x = Scenes.empty();
        for (int i = 0; i < notes.length; i++) {
            due(x.note(notes[i]), i + 1);
        }
        return x;
    }

    private static Counted melody(int... notes) {
        Counted x = Scenes.empty();
        for (int i = 0; i < notes.length; i++) {
            due(x.tune(notes[i]), i + 1);
        }
        return x;
    }

    private static Counted hand(int... notes) {
        Counted x = Scenes.empty();
        for (int i = 0; i < notes.length; i++) {
            due(x.finger(notes[i]), i + 1);
        }
        return x;
    }

    private static Counted pillars(String text) {
        Counted x = Scenes.empty();
        Bench.tell(x, 3, text);
        return x;
    }

    private static void goes() {
        Bench.test("IN THOUGHT (nothing of it stays; no DRAWS: it slips, if slips is 500 at least).", () -> {
            Bench.leaves(Scenes::rich, x -> x.goes(60, 0), x -> x.goes(60, 1), x -> x.goes(60, 2), x -> x.goes(60, 3), x -> x.all(),
                    x -> x.of(0, 8), x -> x.of(0, 11), x -> x.round(0, 47, 0), x -> x.round(0, 47, 1), x -> x.desks(6, 0), x -> x.desks(3, 1));
            Bench.leaves(Scenes::full, x -> x.goes(60, 2), x -> x.all());
            int[] slips = {499, 500, 501, 1000};
            int[] wrongs = {0, 1, 1, 1};
            for (int i = 0; i < 4; i++) {
                Counted x = Scenes.two();
                good(x, 0, "slips " + slips[i] + ";", 1);
                x.act(2, 0, 11);
                due(x.goes(1, 2), wrongs[i]);
                due(x.goes(60, 2), 60 * wrongs[i]);
                due(x.look(5), 0);
            }
        });
        Bench.test("GOES for n (1 .. 60) BEATS: how many sound, UNISONS, WRONG of all, OFF (without sign) of all then.", () -> {
            Counted x = Scenes.three();
            good(x, 0, "slips 0;", 1);
            x.act(2, 0, 1);
            x.set(2, 0, -50);
            x.set(2, 1, 50);
            x.set(2, 2, -50);
            due(x.goes(1, 0), 2);
            due(x.goes(1, 1), 1);
            due(x.goes(1, 3), 50 + 47 + 50);
            due(x.goes(60, 0), 3);
            due(x.goes(60, 1), 60);
            x.beats(1);
            due(x.goes(1, 1), 2);
            // The last beat of sixty counts.
            Counted y = Scenes.two();
            good(y, 1, "at 59 player 0 note 1; at 60 player 1 note 1; at 60 player 0 note 1;", 3);
            due(y.goes(59, 0), 0);
            due(y.goes(60, 0), 1);
            y.beats(1);
            due(y.goes(60, 0), 2);
            due(y.goes(60, 1), 1);
            due(Scenes.empty().goes(60, 3), 0);
        });
        Bench.test("GOES what 0 how many sound, 1 UNISONS, 2 WRONG, 3 OFF. NONE if one can't be, or another what.", () ->
            Bench.refused(Scenes::rich, NONE, x -> x.goes(0, 0), x -> x.goes(61, 0), x -> x.goes(-1, 1), x -> x.goes(1, -1),
                    x -> x.goes(1, 4), x -> x.goes(MIN, 0), x -> x.goes(MAX, 0), x -> x.goes(60, MIN), x -> x.goes(60, MAX)));
        Bench.test("ALL: behind how many BEATS all PLAYERS sound (0: now; NONE: not within 60, nobody there).", () -> {
            Counted x = Scenes.empty();
            none(x.all());
            x.player(9, 9, 0, 0);
            none(x.all());
            good(x, 1, "at 0 player 0 note 0;", 1);
            due(x.all(), 1);
            good(x, 1, "at 59 player 0 note 0;", 1);
            due(x.all(), 60);
            good(x, 1, "at 60 player 0 note 0;", 1);
            none(x.all());
            x.beats(1);
            due(x.all(), 60);
            x.act(2, 0, 0);
            due(x.all(), 0);
            x.player(9, 9, 1, 0);
            none(x.all());
            x.act(2, 1, 11);
            due(x.all(), 0);
        });
    }

    private static void round() {
        Bench.test("ROUND the PILLARS from SEAT a to b (as 8 y and x, neither on a PILLAR)", () -> {
            Counted x = pillars("pillar 0 0; pillar 7 5;");
            none(x.round(0, 1, 0));
            none(x.round(1, 0, 0));
            none(x.round(0, 0, 0));
            none(x.round(0, 0, 1));
            none(x.round(46, 47, 1));
            none(x.round(47, 46, 1));
            due(x.round(1, 46, 0), 10);
            due(x.round(7, 40, 0), 12);
            due(x.round(1, 8, 0), 2);
        });
        Bench.test("how many steps (up, right, down, left, none on a PILLAR; NONE, both: no way)", () -> {
            Counted x = Scenes.empty();
            due(x.round(0, 47, 0), 12);
            due(x.round(7, 40, 0), 12);
            due(x.round(7, 8, 0), 8);
            due(x.round(15, 16, 0), 8);
            due(x.round(27, 27, 0), 0);
            int[] beside = {19, 28, 35, 26};
            for (int b : beside) {
                due(x.round(27, b, 0), 1);
            }
            due(x.round(27, 18, 0), 2);
            Counted y = pillars("pillar 1 0; pillar 0 1; pillar 6 5; pillar 7 4;");
            int[][] shut = {{0, 9}, {9, 0}, {0, 47}, {47, 0}, {47, 46 - 8}};
            for (int[] s : shut) {
                none(y.round(s[0], s[1], 0));
                none(y.round(s[0], s[1], 1));
            }
            due(y.round(0, 0, 0), 0);
            due(y.round(47, 47, 1), 1);
            // A wall with one gap, at its last seat.
            Counted z = pillars("pillar 3 0;pillar 3 1;pillar 3 2;pillar 3 3;pillar 3 4;");
            due(z.round(2, 4, 0), 12);
            Counted wall = pillars("pillar 3 0;pillar 3 1;pillar 3 2;pillar 3 3;pillar 3 4;pillar 3 5;");
            none(wall.round(2, 4, 0));
            due(wall.round(0, 42, 1), 18);
        });
        Bench.test("how many SEATS are no further than that from a (a, too).", () -> {
            Counted x = Scenes.empty();
            due(x.round(0, 0, 1), 1);
            due(x.round(0, 1, 1), 3);
            due(x.round(0, 2, 1), 6);
            due(x.round(27, 28, 1), 5);
            due(x.round(27, 29, 1), 13);
            due(x.round(0, 47, 1), 48);
            due(x.round(0, 39, 1), 47);
            due(x.round(0, 46, 1), 47);
            Counted y = pillars("pillar 1 0;");
            due(y.round(0, 8, 1), 2);
            due(y.round(0, 47, 1), 47);
        });
        Bench.test("ROUND what 0 how many steps, 1 how many SEATS. NONE, too, if one can't be (0 .. 47), or another what.", () ->
            Bench.refused(Scenes::rich, NONE, x -> x.round(-1, 0, 0), x -> x.round(48, 0, 0), x -> x.round(0, -1, 0),
                    x -> x.round(0, 48, 0), x -> x.round(0, -1, 1), x -> x.round(0, 48, 1), x -> x.round(0, 47, -1),
                    x -> x.round(0, 47, 2), x -> x.round(MIN, MAX, 0), x -> x.round(MAX, 0, 1), x -> x.round(1, 0, 0),
                    x -> x.round(0, 36, 1), x -> x.round(0, 0, MIN)));
    }

    private static void desks() {
        Bench.test("told costs of couples among 0 .. 5 (0 .. 9; 0 at first)", () -> {
            Counted x = Scenes.empty();
            due(x.desks(6, 0), 0);
            yes(x.cost(0, 5, 9));
            due(x.desks(6, 0), 9);
            yes(x.cost(5, 0, 0));
            due(x.desks(6, 0), 0);
            yes(x.cost(4, 5, 1));
            due(x.desks(6, 0), 1);
            due(x.desks(5, 0), 0);
            Counted y = Scenes.empty();
            for (int a = 0; a < 6; a++) {
                for (int b = a + 1; b < 6; b++) {
                    yes(y.cost(a, b, 9));
                }
            }
            // 5 couples side by side, 4 two apart, .. : 35 times 9.
            due(y.desks(6, 0), 315);
            due(y.desks(6, 1), 12345);
        });
        Bench.test("The cost of a couple for DESKS: true; false if one can't be (unlike).", () -> {
            Bench.refused(Scenes::rich, x -> x.cost(0, 0, 5), x -> x.cost(5, 5, 5), x -> x.cost(-1, 0, 5), x -> x.cost(6, 0, 5),
                    x -> x.cost(0, -1, 5), x -> x.cost(0, 6, 5), x -> x.cost(0, 1, -1), x -> x.cost(0, 1, 10), x -> x.cost(MIN, 0, 5),
                    x -> x.cost(0, MAX, 5), x -> x.cost(0, 1, MIN), x -> x.cost(-1, -1, 5));
            Counted x = Scenes.two();
            x.act(2, 0, 1);
            yes(x.cost(5, 4, 9));
            due(x.look(11), 1);
        });
        Bench.test("the first n (1 .. 6) sit in a row: the least that all costs, each times how many seats they are apart, come to", () -> {
            // A chain 4 2 0 1 3 5: whoever is not there yet costs nothing.
            Counted x = chain();
            int[] least = {0, 9, 18, 27, 36, 45};
            for (int n = 1; n <= 6; n++) {
                due(x.desks(n, 0), least[n - 1]);
            }
        });
        Bench.test("in which order (digits from the left as a number, a 0 ahead falls away; of several the least).", () -> {
            Counted x = chain();
            int[] orders = {0, 1, 102, 2013, 31024, 420135};
            for (int n = 1; n <= 6; n++) {
                due(x.desks(n, 1), orders[n - 1]);
            }
            int[] zero = {0, 1, 12, 123, 1234, 12345};
            Counted y = Scenes.empty();
            for (int n = 1; n <= 6; n++) {
                due(y.desks(n, 1), zero[n - 1]);
            }
        });
        Bench.test("DESKS of n what 0 the least, 1 the order. NONE if one can't be, or another what.", () ->
            Bench.refused(Scenes::rich, NONE, x -> x.desks(0, 0), x -> x.desks(7, 0), x -> x.desks(-1, 1), x -> x.desks(6, -1),
                    x -> x.desks(6, 2), x -> x.desks(MIN, 0), x -> x.desks(MAX, 1), x -> x.desks(1, MIN), x -> x.desks(1, MAX)));
    }

    private static Counted chain() {
        Counted x = Scenes.empty();
        int[][] couples = {{4, 2}, {2, 0}, {0, 1}, {1, 3}, {3, 5}};
        for (int[] c : couples) {
            yes(x.cost(c[0], c[1], 9));
        }
        return x;
    }

    private static void chord() {
        Bench.test("CHORD: a set of 12 notes (0 .. 4095, bit k note k)", () -> {
            Bench.refused(Scenes::rich, NONE, x -> x.chord(-1, 0), x -> x.chord(4096, 0), x -> x.chord(-1, 6), x -> x.chord(4096, 1),
                    x -> x.chord(MIN, 0), x -> x.chord(MAX, 0));
            Counted x = Scenes.empty();
            due(x.chord(0, 0), 0);
            due(x.chord(4095, 0), 4095);
            due(x.chord(4094, 0), 2047);
            due(x.chord(0, 1), 0);
        });
        Bench.test("the least set that comes of it by moving all notes round by as much and, or not, turning it about"
                + " (note k to 12 less k, 0 to 0)", () -> {
            Counted x = Scenes.empty();
            for (int k = 0; k < 12; k++) {
                due(x.chord(1 << k, 0), 1);
                due(x.chord(4095 - (1 << k), 0), 2047);
            }
            // 0 1 3 stays, 0 2 3 is turned about to it, 11 0 2 moved round to it.
            due(x.chord(11, 0), 11);
            due(x.chord(13, 0), 11);
            due(x.chord(2048 | 1 | 4, 0), 11);
            due(x.chord(2048 | 1024 | 256, 0), 11);
        });
        Bench.test("how many couples are c (1 .. 6) apart, the lesser way round.", () -> {
            Counted x = Scenes.empty();
            for (int k = 1; k < 12; k++) {
                for (int c = 1; c <= 6; c++) {
                    due(x.chord(1 | 1 << k, c), c == Math.min(k, 12 - k) ? 1 : 0);
                }
            }
            for (int c = 1; c <= 6; c++) {
                due(x.chord(4095, c), c == 6 ? 6 : 12);
                due(x.chord(1, c), 0);
            }
        });
        Bench.test("CHORD: the least set (c 0); how many couples are c apart. NONE if one can't be.", () ->
            Bench.refused(Scenes::rich, NONE, x -> x.chord(145, -1), x -> x.chord(145, 7), x -> x.chord(145, MIN), x -> x.chord(145, MAX)));
    }

    private static void series() {
        Bench.test("SERIES: a told row of notes 0 .. 11, each once, up to 12", () -> {
            Counted x = Scenes.empty();
            for (int i = 0; i < 12; i++) {
                due(x.note(11 - i), i + 1);
                none(x.note(11));
                due(x.series(0, 0, i), 11 - i);
            }
            none(x.note(0));
            none(x.note(12));
            due(x.note(NONE), 0);
            none(x.series(0, 0, 0));
            due(x.note(0), 1);
            due(x.note(11), 2);
        });
        Bench.test("A note of SERIES (NONE: none is then): how many; NONE if one can't be (told already), or there are twelve.", () -> {
            Bench.refused(Scenes::rich, NONE, x -> x.note(12), x -> x.note(-2), x -> x.note(0), x -> x.note(9), x -> x.note(MIN),
                    x -> x.note(MAX));
            Bench.refused(Scenes::full, NONE, x -> x.note(0), x -> x.note(11), x -> x.note(12));
            Counted x = Scenes.two();
            due(x.note(NONE), 0);
            x.act(2, 0, 1);
            due(x.note(5), 1);
            due(x.note(NONE), 0);
            due(x.note(NONE), 0);
            due(x.look(11), 1);
        });
        Bench.test("as it is (0), upside down (1: each note is 2 times the first told one less it), from behind (2), both (3:"
                + " upside down, then from behind), all moved up by t (0 .. 11): its i-th note (modulo 12)", () -> {
            Counted x = row(0, 11);
            due(x.series(0, 11, 1), 10);
            due(x.series(1, 0, 1), 1);
            due(x.series(1, 11, 1), 0);
            due(x.series(2, 0, 0), 11);
            due(x.series(2, 1, 0), 0);
            due(x.series(3, 0, 0), 1);
            due(x.series(3, 11, 1), 11);
            Counted y = row(11, 0);
            due(y.series(1, 0, 0), 11);
            due(y.series(1, 0, 1), 10);
            due(y.series(1, 11, 1), 9);
            due(y.series(3, 2, 0), 0);
            due(row(7).series(3, 11, 0), 6);
        });
        Bench.test("how many unlike steps (each note less the one ahead, modulo 12) are in it.", () -> {
            for (int way = 0; way < 4; way++) {
                due(row().series(way, 0, NONE), 0);
                due(row(5).series(way, 11, NONE), 0);
                due(row(0, 11).series(way, 0, NONE), 1);
                due(row(0, 1, 2, 3, 4, 5, 6, 7, 8, 9, 10, 11).series(way, 0, NONE), 1);
                due(row(0, 11, 1, 10, 2, 9, 3, 8, 4, 7, 5, 6).series(way, 11, NONE), 11);
                // 6 up and 6 down are alike, 1 up and 11 down, too.
                due(row(0, 6).series(way, 0, NONE), 1);
                due(row(11, 0, 1).series(way, 0, NONE), 1);
            }
        });
        Bench.test("SERIES, which way 0 .. 3, moved by t: the i-th; how many unlike steps (i NONE). NONE if there is none such, or one can't be.", () -> {
            Bench.refused(Scenes::rich, NONE, x -> x.series(-1, 0, 0), x -> x.series(4, 0, 0), x -> x.series(0, -1, 0), x -> x.series(0, 12, 0),
                    x -> x.series(0, 0, -2), x -> x.series(0, 0, 4), x -> x.series(4, 0, NONE), x -> x.series(0, 12, NONE),
                    x -> x.series(-1, 0, NONE), x -> x.series(0, -1, NONE), x -> x.series(0, 0, MIN), x -> x.series(0, 0, MAX),
                    x -> x.series(MIN, 0, 0), x -> x.series(0, MAX, 0));
            Counted x = Scenes.full();
            for (int way = 0; way < 4; way++) {
                none(x.series(way, 0, 12));
                due(x.series(way, 0, 11) >= 0 ? 1 : 0, 1);
                none(Scenes.empty().series(way, 0, 0));
            }
        });
    }

    private static void canon() {
        Bench.test("CANON: a told tune of up to 12 notes (0 .. 24)", () -> {
            Counted x = Scenes.empty();
            for (int i = 1; i <= 12; i++) {
                due(x.tune(i % 2 == 0 ? 24 : 0), i);
                due(x.canon(1, 0, 0), i - 1);
            }
            none(x.tune(0));
            due(x.canon(1, 0, 0), 11);
            due(x.tune(NONE), 0);
            due(x.canon(1, 0, 0), 0);
            none(x.tune(25));
            none(x.tune(-2));
            due(x.tune(24), 1);
        });
        Bench.test("A note of the tune (NONE: none is then): how many; NONE if one can't be, or there are twelve.", () -> {
            Bench.refused(Scenes::rich, NONE, x -> x.tune(25), x -> x.tune(-2), x -> x.tune(MIN), x -> x.tune(MAX));
            Bench.refused(Scenes::full, NONE, x -> x.tune(0), x -> x.tune(24), x -> x.tune(25));
            Counted x = Scenes.two();
            x.act(2, 0, 1);
            due(x.tune(NONE), 0);
            due(x.tune(5), 1);
            due(x.tune(5), 2);
            due(x.tune(NONE), 0);
            due(x.look(11), 1);
        });
        Bench.test("against itself d (1 .. 11) later and t (-12 .. 12) higher: how many notes sound together", () -> {
            Counted x = melody(0, 1, 2, 3, 4, 5, 6, 7, 8, 9, 10, 11);
            for (int d = 1; d <= 11; d++) {
                due(x.canon(d, -12, 0), 12 - d);
                due(x.canon(d, 12, 0), 12 - d);
            }
            Counted y = melody(5, 5, 5);
            due(y.canon(2, 0, 0), 1);
            due(y.canon(3, 0, 0), 0);
            due(y.canon(11, 0, 0), 0);
        });
        Bench.test("of how many of these couples the greater less the lesser is 0, 3, 4, 7, 8, 9 modulo 12", () -> {
            // From 24 + t to 0, from 0 + t to 24, and t alone: 12 .. 36 apart both ways, and 0 .. 12.
            int[] sweet = {1, 0, 0, 1, 1, 0, 0, 1, 1, 1, 0, 0};
            Counted down = melody(24, 0);
            Counted up = melody(0, 24);
            Counted same = melody(0, 0);
            for (int t = -12; t <= 12; t++) {
                due(down.canon(1, t, 1), sweet[(24 + t) % 12]);
                due(up.canon(1, t, 1), sweet[(24 - t) % 12]);
                due(same.canon(1, t, 1), sweet[Math.abs(t) % 12]);
            }
        });
        Bench.test("the d by which, with that t, most are so apart (the least; none together: NONE).", () -> {
            none(melody().canon(1, 0, 2));
            none(melody(3).canon(1, 0, 2));
            due(melody(3, 4).canon(1, 0, 2), 1);
            due(melody(3, 3).canon(1, 0, 2), 1);
            // Of 1 higher only the last one against the first: 1 against 0 + 1.
            Counted x = melody(0, 2, 2, 2, 2, 2, 2, 2, 2, 2, 2, 1);
            due(x.canon(11, 1, 1), 1);
            due(x.canon(10, 1, 1), 0);
            due(x.canon(1, 1, 2), 11);
            // As many by 1 as by 2.
            due(melody(0, 3, 4).canon(1, 0, 2), 1);
        });
        Bench.test("CANON what 0 how many together, 1 how many so apart, 2 by which d (d not asked). NONE, too, if one can't be, or another what.", () -> {
            Bench.refused(Scenes::rich, NONE, x -> x.canon(0, 0, 0), x -> x.canon(12, 0, 0), x -> x.canon(0, 0, 1), x -> x.canon(12, 0, 1),
                    x -> x.canon(1, -13, 0), x -> x.canon(1, 13, 0), x -> x.canon(1, 13, 1), x -> x.canon(1, -13, 2), x -> x.canon(1, 13, 2),
                    x -> x.canon(1, 0, -1), x -> x.canon(1, 0, 3), x -> x.canon(MIN, 0, 0), x -> x.canon(MAX, 0, 1), x -> x.canon(1, MIN, 0),
                    x -> x.canon(1, MAX, 2), x -> x.canon(1, 0, MIN));
            Counted x = melody(0, 4);
            int[] unasked = {MIN, -1, 0, 12, MAX};
            for (int d : unasked) {
                due(x.canon(d, 0, 2), 1);
                due(x.canon(d, 12, 2), 1);
                due(x.canon(d, -12, 2), 1);
            }
        });
    }

    private static void twice() {
        Bench.test("TWICE: the longest part of the tune that comes twice in it (they may overlap, not begin alike)", () -> {
            due(melody(5, 5, 5, 5, 5, 5, 5, 5, 5, 5, 5, 5).twice(0), 11);
            due(melody(5, 5).twice(0), 1);
            due(melody(1, 2, 1, 2, 1).twice(0), 3);
            due(melody(0, 24, 0, 24).twice(0), 2);
            due(melody(1, 2, 3, 4, 5, 6, 1, 2, 3, 4, 5, 6).twice(0), 6);
        });
        Bench.test("where the first such one begins (none: 0, NONE).", () -> {
            int[][] none = {{}, {5}, {0, 1}, {0, 1, 2, 3, 4, 5, 6, 7, 8, 9, 10, 11}};
            for (int[] notes : none) {
                due(melody(notes).twice(0), 0);
                none(melody(notes).twice(1));
            }
            due(melody(5, 5, 5, 5, 5, 5, 5, 5, 5, 5, 5, 5).twice(1), 0);
            due(melody(0, 1, 2, 3, 4, 5, 6, 7, 8, 9, 11, 11).twice(1), 10);
            due(melody(1, 2, 1, 3, 2, 4).twice(1), 0);
            due(melody(9, 1, 1, 2, 2).twice(1), 1);
            due(melody(9, 1, 9, 2, 3, 2, 3).twice(1), 3);
        });
        Bench.test("TWICE what 0 how long, 1 where. NONE, too, for another what.", () ->
            Bench.refused(Scenes::rich, NONE, x -> x.twice(-1), x -> x.twice(2), x -> x.twice(MIN), x -> x.twice(MAX)));
    }

    private static void hunt() {
        Bench.test("HUNT of n (3 .. 8) bells 0, 1, ..", () -> {
            Bench.refused(Scenes::rich, NONE, x -> x.hunt(2, 0, 0), x -> x.hunt(9, 0, 0), x -> x.hunt(2, 0, NONE), x -> x.hunt(9, 0, NONE),
                    x -> x.hunt(MIN, 0, 0), x -> x.hunt(MAX, 0, 0), x -> x.hunt(0, 0, 0), x -> x.hunt(-1, 0, NONE));
            Counted x = Scenes.empty();
            for (int n = 3; n <= 8; n++) {
                for (int i = 0; i < n; i++) {
                    due(x.hunt(n, 0, i), i);
                    due(x.hunt(n, n, i), n - 1 - i);
                }
                none(x.hunt(n, 0, n));
                due(x.hunt(n, n, NONE), n * (n - 1) / 2);
            }
        });
        Bench.test("couples at places 0 and 1, 2 and 3, .. change, then those at 1 and 2, 3 and 4, .., and so on by turns", () -> {
            int[] three = {12, 102, 120, 210, 201, 21, 12};
            int[] eight = {1234567, 10325476, 13052746, 31507264};
            Counted x = Scenes.empty();
            for (int k = 0; k < three.length; k++) {
                due(100 * x.hunt(3, k, 0) + 10 * x.hunt(3, k, 1) + x.hunt(3, k, 2), three[k]);
            }
            for (int k = 0; k < eight.length; k++) {
                int row = 0;
                for (int i = 0; i < 8; i++) {
                    row = 10 * row + x.hunt(8, k, i);
                }
                due(row, eight[k]);
            }
        });
        Bench.test("which bell is at place i behind k (0 .. 99) changes; how many couples are out of order then.", () -> {
            Bench.refused(Scenes::rich, NONE, x -> x.hunt(8, -1, 0), x -> x.hunt(8, 100, 0), x -> x.hunt(8, -1, NONE), x -> x.hunt(8, 100, NONE),
                    x -> x.hunt(8, MIN, 0), x -> x.hunt(8, MAX, 0));
            Counted x = Scenes.empty();
            // 99 is 3 behind 6 times 16, and 3 behind 16 times 6.
            due(x.hunt(8, 99, 0), 3);
            due(x.hunt(8, 99, 7), 4);
            due(x.hunt(8, 99, NONE), 11);
            due(x.hunt(3, 99, 0), 2);
            due(x.hunt(3, 99, NONE), 3);
            due(x.hunt(8, 0, NONE), 0);
            due(x.hunt(8, 1, NONE), 4);
            due(x.hunt(3, 1, NONE), 1);
            due(x.hunt(8, 96, NONE), 0);
        });
        Bench.test("HUNT of n behind k: which bell at place i; how many couples out of order (i NONE). NONE if one can't be.", () ->
            Bench.refused(Scenes::rich, NONE, x -> x.hunt(3, 1, 3), x -> x.hunt(8, 1, 8), x -> x.hunt(3, 1, -2), x -> x.hunt(3, 1, MIN),
                    x -> x.hunt(3, 1, MAX), x -> x.hunt(3, 1, 7)));
    }

    private static void fingers() {
        Bench.test("FINGERS: up to 10 told notes (0 .. 24)", () -> {
            Counted x = Scenes.empty();
            for (int i = 1; i <= 10; i++) {
                due(x.finger(i % 2 == 0 ? 24 : 0), i);
                // 9 frets and 3 strings each time.
                due(x.fingers(0), 15 * (i - 1));
            }
            none(x.finger(0));
            due(x.fingers(0), 135);
            due(x.finger(NONE), 0);
            due(x.finger(24), 1);
        });
        Bench.test("A note for FINGERS (NONE: none is then): how many; NONE if one can't be, or there are ten.", () -> {
            Bench.refused(Scenes::rich, NONE, x -> x.finger(25), x -> x.finger(-2), x -> x.finger(MIN), x -> x.finger(MAX));
            Bench.refused(Scenes::full, NONE, x -> x.finger(0), x -> x.finger(24), x -> x.finger(25));
            Counted x = Scenes.two();
            x.act(2, 0, 1);
            due(x.finger(NONE), 0);
            due(x.finger(5), 1);
            due(x.finger(NONE), 0);
            due(x.look(11), 1);
        });
        Bench.test("string s (0 .. 3) has 5 s at fret 0 and one more at each fret, 9 at most", () -> {
            // Each note alone lies on the least string that has it.
            for (int v = 0; v <= 24; v++) {
                due(hand(v).fingers(0), 0);
                due(hand(v).fingers(1), v <= 9 ? 0 : v <= 14 ? 1 : v <= 19 ? 2 : 3);
            }
            // 0 and 4 are on string 0 alone, 10 is not: from 0 to 9 four frets and a string, from 4 to 10 a fret and a string.
            due(hand(0, 9).fingers(0), 6);
            due(hand(9, 0).fingers(1), 1);
            due(hand(4, 10).fingers(0), 3);
        });
        Bench.test("the least of all that it costs from note to note, frets apart and twice the strings apart", () -> {
            due(hand(5, 10).fingers(0), 2);
            due(hand(0, 24).fingers(0), 15);
            due(hand(0, 1).fingers(0), 1);
            due(hand(7, 7, 7).fingers(0), 0);
            due(hand(5, 20, 15).fingers(0), 8);
        });
        Bench.test("on which string the first is then (of several the least) (NONE: one can't be played; none told: 0, NONE).", () -> {
            due(hand().fingers(0), 0);
            none(hand().fingers(1));
            due(hand(10).fingers(1), 1);
            due(hand(10, 15).fingers(1), 1);
            due(hand(10, 0).fingers(0), 4);
            due(hand(10, 0).fingers(1), 2);
            due(hand(24).fingers(1), 3);
            due(hand(0).fingers(1), 0);
        });
        Bench.test("FINGERS what 0 the least, 1 on which string. NONE, too, for another what.", () ->
            Bench.refused(Scenes::rich, NONE, x -> x.fingers(-1), x -> x.fingers(2), x -> x.fingers(MIN), x -> x.fingers(MAX)));
    }

    private static void quarrels() {
        Bench.test("QUARRELS: told couples among 0 .. 9, up to 16", () -> {
            Counted x = Scenes.empty();
            for (int i = 1; i <= 15; i++) {
                due(x.quarrel(0, 1), i);
            }
            due(x.quarrels(0), 9);
            due(x.quarrel(9, 8), 16);
            due(x.quarrels(0), 8);
            none(x.quarrel(2, 3));
            none(x.quarrel(0, 1));
            due(x.quarrels(0), 8);
            due(x.quarrels(1), 4);
            due(x.quarrels(2), 509);
        });
        Bench.test("how many at most of 0 .. 9 play together without one; in how many ways as many; the least such set as a number.", () -> {
            Counted x = Scenes.empty();
            due(x.quarrels(0), 10);
            due(x.quarrels(1), 1);
            due(x.quarrels(2), 1023);
            for (int i = 0; i < 10; i += 2) {
                x.quarrel(i + 1, i);
            }
            due(x.quarrels(0), 5);
            due(x.quarrels(1), 32);
            due(x.quarrels(2), 341);
            Counted star = Scenes.empty();
            for (int i = 1; i < 10; i++) {
                star.quarrel(i, 0);
            }
            due(star.quarrels(0), 9);
            due(star.quarrels(1), 1);
            due(star.quarrels(2), 1022);
            // 0 to 5 each with each but for 4 with 5: 15 couples less one.
            Counted all = Scenes.empty();
            for (int a = 0; a < 6; a++) {
                for (int b = a + 1; b < 6; b++) {
                    if (a != 4) {
                        all.quarrel(a, b);
                    }
                }
            }
            due(all.quarrels(0), 6);
            due(all.quarrels(1), 1);
            due(all.quarrels(2), 960 + 48);
        });
        Bench.test("A couple for QUARRELS (a NONE: none is then): how many; NONE if one can't be (0 .. 9, unlike), or there are sixteen.", () -> {
            Bench.refused(Scenes::rich, NONE, x -> x.quarrel(0, 0), x -> x.quarrel(9, 9), x -> x.quarrel(-2, 0), x -> x.quarrel(10, 0),
                    x -> x.quarrel(0, -1), x -> x.quarrel(0, 10), x -> x.quarrel(MIN, 0), x -> x.quarrel(0, MAX), x -> x.quarrel(MAX, MAX));
            Bench.refused(Scenes::full, NONE, x -> x.quarrel(0, 5), x -> x.quarrel(0, 0));
            Counted x = Scenes.two();
            x.act(2, 0, 1);
            due(x.quarrel(0, 9), 1);
            due(x.quarrel(9, 0), 2);
            int[] unasked = {NONE, MIN, MAX, 0, 10};
            for (int b : unasked) {
                due(x.quarrels(0), 9);
                due(x.quarrel(NONE, b), 0);
                due(x.quarrels(0), 10);
                due(x.quarrel(0, 4), 1);
            }
            due(x.look(11), 1);
        });
        Bench.test("QUARRELS what 0 how many at most, 1 in how many ways, 2 the least set. NONE for another what.", () ->
            Bench.refused(Scenes::rich, NONE, x -> x.quarrels(-1), x -> x.quarrels(3), x -> x.quarrels(MIN), x -> x.quarrels(MAX)));
    }

    private static void bars() {
        Bench.test("BARS: n (0 .. 40) beats in bars of 2, 3, 4, no two alike side by side: in how many ways (0: 1); the fewest bars (NONE).", () -> {
            int[] ways = {1, 0, 1, 1, 1, 2, 2, 3, 2};
            int[] fewest = {0, NONE, 1, 1, 1, 2, 2, 2, 3};
            Counted x = Scenes.empty();
            for (int n = 0; n < ways.length; n++) {
                due(x.bars(n, 0), ways[n]);
                due(x.bars(n, 1), fewest[n]);
            }
            due(x.bars(40, 0), 5700);
            // Eleven bars come to 39 at most.
            due(x.bars(39, 1), 11);
            due(x.bars(40, 1), 12);
            due(x.bars(0, 0), 1);
            due(x.bars(0, 1), 0);
        });
        Bench.test("BARS of n what 0 in how many ways, 1 the fewest. NONE, too, if n can't be, or another what.", () ->
            Bench.refused(Scenes::rich, NONE, x -> x.bars(-1, 0), x -> x.bars(41, 0), x -> x.bars(-1, 1), x -> x.bars(41, 1), x -> x.bars(5, -1),
                    x -> x.bars(5, 2), x -> x.bars(MIN, 0), x -> x.bars(MAX, 1), x -> x.bars(0, MIN)));
    }

    private static void scale() {
        Bench.test("of a set of 12 notes: how many of its notes have one 4 and one 7 above them (round) in it, too; how many 3 and 7.", () -> {
            Counted x = Scenes.empty();
            for (int k = 0; k < 12; k++) {
                int fifth = 1 << k | 1 << (k + 7) % 12;
                due(x.scale(fifth | 1 << (k + 4) % 12, 0), 1);
                due(x.scale(fifth | 1 << (k + 4) % 12, 1), 0);
                due(x.scale(fifth | 1 << (k + 3) % 12, 1), 1);
                due(x.scale(fifth | 1 << (k + 3) % 12, 0), 0);
                due(x.scale(fifth, 0), 0);
                due(x.scale(4095 - fifth, 1) < 12 ? 1 : 0, 1);
            }
            due(x.scale(0, 0), 0);
            due(x.scale(0, 1), 0);
            due(x.scale(4095, 0), 12);
            due(x.scale(4095, 1), 12);
        });
        Bench.test("SCALE of a set what 0 by 4 and 7, 1 by 3 and 7. NONE if one can't be, or another what.", () ->
            Bench.refused(Scenes::rich, NONE, x -> x.scale(-1, 0), x -> x.scale(4096, 0), x -> x.scale(-1, 1), x -> x.scale(4096, 1),
                    x -> x.scale(0, -1), x -> x.scale(0, 2), x -> x.scale(MIN, 0), x -> x.scale(MAX, 1), x -> x.scale(1, MAX)));
    }

    private static void game() {
        Bench.test("GAME of two numbers a, b (1 .. 999)", () -> {
            Counted x = Scenes.empty();
            due(x.game(1, 1, 0), 1);
            due(x.game(999, 999, 0), 1);
            due(x.game(999, 1, 0), 999);
            due(x.game(1, 999, 0), 999);
            due(x.game(1, 1, 1), 1);
            due(x.game(999, 999, 1), 1);
            due(x.game(999, 1, 1), 1);
        });
        Bench.test("how many times who begins takes it (the least that wins; NONE: loses)", () -> {
            Counted x = Scenes.empty();
            none(x.game(999, 998, 0));
            none(x.game(998, 999, 0));
            none(x.game(3, 2, 0));
            due(x.game(2, 1, 0), 2);
            due(x.game(5, 3, 0), 1);
            // From 987 and 610 thirteen takings can't be otherwise, then the other one has 2 and 1; from 610 and 377 twelve.
            none(x.game(987, 610, 0));
            due(x.game(610, 377, 0), 1);
            // 998 = 2 * 499, so at once; of 999 and 499 one is left over and the other one wins with it: he must be made to take.
            due(x.game(998, 499, 0), 2);
            due(x.game(999, 499, 0), 1);
            // 8 less 3 twice leaves 3 and 2, which loses.
            due(x.game(8, 3, 0), 2);
        });
        Bench.test("how many takings it is at the fewest till one is 0, if both help.", () -> {
            Counted x = Scenes.empty();
            due(x.game(987, 610, 1), 14);
            due(x.game(610, 987, 1), 14);
            due(x.game(999, 998, 1), 2);
            due(x.game(6, 3, 1), 1);
            due(x.game(7, 3, 1), 2);
        });
        Bench.test("GAME what 0 how many times, 1 how many takings. NONE, too, if one can't be, or another what.", () ->
            Bench.refused(Scenes::rich, NONE, x -> x.game(0, 1, 0), x -> x.game(1, 0, 0), x -> x.game(1000, 1, 0), x -> x.game(1, 1000, 0),
                    x -> x.game(0, 1, 1), x -> x.game(1, 0, 1), x -> x.game(1000, 1, 1), x -> x.game(1, 1000, 1), x -> x.game(0, 0, 0),
                    x -> x.game(1, 1, -1), x -> x.game(1, 1, 2), x -> x.game(MIN, MAX, 0), x -> x.game(MIN, -1, 1), x -> x.game(5, 3, MIN)));
    }

    public static void main(String[] args) throws IOException {
        Bench.open(args);
        goes();
        round();
        desks();
        chord();
        series();
        canon();
        twice();
        hunt();
        fingers();
        quarrels();
        bars();
        scale();
        game();
        Bench.close();
    }
}
