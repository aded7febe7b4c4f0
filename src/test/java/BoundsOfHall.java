import java.io.IOException;

/** Boundary cases of THE HALL, its draws, its players and seats, and what is done by hand: promises 1 to 6, 11, 12. */
public final class BoundsOfHall {
    private static final int NONE = Bench.NONE;
    private static final int MIN = Bench.MIN;
    private static final int MAX = Bench.MAX;
    private static final int NO_PLAYER = NONE - 9999;
    private static final int NO_SEAT = NONE - 1;

    private static void due(int got, int want) {
        Bench.due(got, want);
    }

    private static void yes(boolean got) {
        Bench.yes(got);
    }

    private static void no(boolean got) {
        Bench.no(got);
    }

    private static void none(int got) {
        Bench.none(got);
    }

    private static void theObject() {
        Bench.test("An object is used for at most 512 calls after it has been made", () -> {
            Counted x = Scenes.three();
            for (int i = 0; i < 508; i++) {
                x.state(i);
            }
            due(x.calls(), 511);
            due(x.state(-1), 507);
            due(x.calls(), 512);
        });
        Bench.test("`HearsayOrchestra()`: An empty hall.", () -> {
            Counted x = Scenes.empty();
            for (int what = 0; what <= 11; what++) {
                due(x.look(what), 0);
            }
            for (int place = 0; place < 48; place++) {
                none(x.seat(place % 8, place / 8, 0));
                due(x.seat(place % 8, place / 8, 1), 0);
            }
            due(x.of(0, 0), NO_PLAYER);
            due(x.book(0, 0), NONE - 1);
            no(x.set(0, 0, 5));
            no(x.act(2, 0, 5));
            no(x.undo());
            no(x.image(false));
            no(x.end(1));
            due(x.beats(60), 0);
        });
        Bench.test("The constants: `NONE = -1`: None.", () -> due(HearsayOrchestra.NONE, -1));
    }

    private static void draws() {
        Bench.test("STATE of draws (an int, 0 at first)", () -> {
            Counted x = Scenes.empty();
            due(x.look(5), 0);
            due(x.state(MAX), 0);
            due(x.look(5), MAX);
            due(x.state(MIN), MAX);
            due(x.look(5), MIN);
            due(x.state(-1), MIN);
            due(x.look(5), -1);
            due(x.state(0), -1);
            due(x.look(5), 0);
        });
        // One draw a beat: player 1 follows player 0, who is struck anew each time.
        Bench.test("it becomes 1664525 times itself + 1013904223 (ints, which wrap)", () -> {
            int[] states = {0, 1, -1, MAX, MIN, 2, 65536, 1196435762};
            // Each worked out in longs and cut to its lowest 32 bits.
            int[] behind = {1013904223, 1015568748, 1012239698, -1135243950, -1133579425, 1017233273, -1568935073, -775096599};
            for (int i = 0; i < states.length; i++) {
                Counted x = drawer(states[i], "slips 1;");
                x.beats(1);
                due(x.look(5), behind[i]);
            }
        });
        Bench.test("then it is its highest 24 bits (without sign) modulo m", () -> {
            // 1015568748 / 256 = 3967065. -1135243950 is 3159723346 without its sign: / 256 = 12342669.
            int[] states = {1, MAX};
            int[] drawn = {65, 669};
            for (int i = 0; i < states.length; i++) {
                due(drawer(states[i], "slips " + drawn[i] + ";").beats(1), 0);
                due(drawer(states[i], "slips " + (drawn[i] + 1) + ";").beats(1), 1);
            }
        });
        Bench.test("`int state(int v)`: STATE is told: what it was.", () -> {
            Counted x = Scenes.two();
            x.act(2, 0, 1);
            due(x.state(7), 0);
            due(x.state(7), 7);
            due(x.look(11), 0);
        });
    }

    private static Counted drawer(int state, String law) {
        Counted x = Scenes.two();
        Bench.tell(x, 0, law);
        x.state(state);
        x.act(2, 0, 5);
        return x;
    }

    private static void players() {
        Bench.test("SEATS x 0 .. 7, y 0 .. 5", () -> {
            Bench.refused(Scenes::rich, NONE, x -> x.player(5, 5, -1, 1), x -> x.player(5, 5, 8, 1), x -> x.player(5, 5, 1, -1),
                    x -> x.player(5, 5, 1, 6), x -> x.player(5, 5, MIN, 1), x -> x.player(5, 5, MAX, 1),
                    x -> x.player(5, 5, 1, MIN), x -> x.player(5, 5, 1, MAX), x -> x.player(5, 5, 536870912, 1));
            Counted x = Scenes.empty();
            int[][] corners = {{0, 0}, {7, 0}, {0, 5}, {7, 5}};
            for (int i = 0; i < 4; i++) {
                due(x.player(5, 5, corners[i][0], corners[i][1]), i);
                due(x.of(i, 2), corners[i][0]);
                due(x.of(i, 3), corners[i][1]);
                due(x.seat(corners[i][0], corners[i][1], 0), i);
            }
        });
        Bench.test("PILLARS stand on some (by PILLARS; none at first).", () -> {
            Counted x = Scenes.empty();
            due(x.look(10), 0);
            for (int place = 0; place < 48; place++) {
                Bench.good(x, 3, "pillar " + place % 8 + " " + place / 8 + ";", 1);
                due(x.seat(place % 8, place / 8, 1), 1);
                due(x.look(10), 1);
            }
        });
        Bench.test("PLAYERS 0 .. 11 as they come", () -> {
            Counted x = Scenes.empty();
            for (int i = 0; i < 12; i++) {
                due(x.of(i, 0), NO_PLAYER);
                due(x.player(5, 5, i % 8, i / 8), i);
                due(x.of(i, 0), 5);
                due(x.look(0), i + 1);
            }
            none(x.player(5, 5, 7, 5));
            due(x.look(0), 12);
            due(x.of(12, 0), NO_PLAYER);
        });
        Bench.test("NONE if one can't be (the SEAT is not free), or there are twelve.", () -> {
            Bench.refused(Scenes::rich, NONE, x -> x.player(5, 5, 2, 2), x -> x.player(5, 5, 1, 0), x -> x.player(5, 5, 4, 4));
            Bench.refused(Scenes::full, NONE, x -> x.player(5, 5, 7, 5));
            Counted x = Scenes.rich();
            due(x.player(5, 5, 6, 4), 4);
            due(x.look(11), 0);
        });
        Bench.test("LOUD 1 .. 9, EAR 0 .. 9", () -> {
            Bench.refused(Scenes::rich, NONE, x -> x.player(0, 5, 3, 3), x -> x.player(10, 5, 3, 3), x -> x.player(-1, 5, 3, 3),
                    x -> x.player(5, -1, 3, 3), x -> x.player(5, 10, 3, 3), x -> x.player(MIN, 5, 3, 3), x -> x.player(5, MAX, 3, 3));
            Counted x = Scenes.empty();
            int[][] taken = {{1, 0}, {9, 9}, {1, 9}, {9, 0}};
            for (int i = 0; i < 4; i++) {
                due(x.player(taken[i][0], taken[i][1], i, 0), i);
                due(x.of(i, 0), taken[i][0]);
                due(x.of(i, 1), taken[i][1]);
            }
        });
        Bench.test("a SEAT (no two on one, none on a PILLAR)", () -> {
            Counted x = Scenes.empty();
            Bench.good(x, 3, "pillar 7 5; pillar 0 0;", 2);
            none(x.player(5, 5, 7, 5));
            none(x.player(5, 5, 0, 0));
            due(x.player(5, 5, 6, 5), 0);
            none(x.player(5, 5, 6, 5));
            Bench.good(x, 3, "", 0);
            due(x.player(5, 5, 7, 5), 1);
            yes(x.act(0, 0, 0));
            due(x.player(5, 5, 6, 5), 2);
        });
        Bench.test("NOTE 0 .. 11 (NONE: silent, at first), OFF -50 .. 50 (how far out of tune, 0 at first), AFTER a PLAYER"
                + " (whom he followed, NONE at first), WRONG (an int, 0 at first)", () -> {
            Counted x = Scenes.twelve();
            for (int i = 0; i < 12; i++) {
                none(x.of(i, 4));
                due(x.of(i, 5), 0);
                none(x.of(i, 6));
                due(x.of(i, 7), 0);
            }
        });
        Bench.test("UNISONS (an int, 0 at first), BEAT 0 .. 9999 (0 at first).", () -> {
            Counted x = Scenes.three();
            due(x.look(2), 0);
            due(x.look(3), 0);
            due(Scenes.late().look(3), 9999);
        });
    }

    private static void told() {
        Bench.test("What 0 LOUD (1 .. 9), 1 EAR, 2 OFF of PLAYER who: true", () -> {
            int[][] ends = {{0, 1, 9, 0}, {1, 0, 9, 1}, {2, -50, 50, 5}};
            for (int[] end : ends) {
                Counted x = Scenes.twelve();
                yes(x.set(end[0], 0, end[1]));
                yes(x.set(end[0], 11, end[2]));
                due(x.of(0, end[3]), end[1]);
                due(x.of(11, end[3]), end[2]);
                yes(x.set(end[0], 0, end[2]));
                due(x.of(0, end[3]), end[2]);
                x.act(2, 0, 1);
                yes(x.set(end[0], 0, end[2]));
                due(x.look(11), 0);
            }
        });
        Bench.test("false if one can't be, or another what.", () -> {
            Bench.refused(Scenes::rich, x -> x.set(0, 0, 0), x -> x.set(0, 0, 10), x -> x.set(0, 0, -1), x -> x.set(1, 0, -1),
                    x -> x.set(1, 0, 10), x -> x.set(2, 0, -51), x -> x.set(2, 0, 51), x -> x.set(0, 0, MIN), x -> x.set(2, 0, MAX));
            Bench.refused(Scenes::rich, x -> x.set(-1, 0, 5), x -> x.set(3, 0, 5), x -> x.set(MIN, 0, 5), x -> x.set(MAX, 0, 5));
            Bench.refused(Scenes::rich, x -> x.set(0, -1, 5), x -> x.set(0, 4, 5), x -> x.set(1, 4, 5), x -> x.set(2, 4, 5),
                    x -> x.set(0, 12, 5), x -> x.set(2, MIN, 5), x -> x.set(1, MAX, 5));
            Bench.refused(Scenes::full, x -> x.set(0, 12, 5), x -> x.set(2, -1, 5));
        });
    }

    private static void byHand() {
        Bench.test("to SEAT a PLAYER (on another SEAT that is free)", () -> {
            Bench.refused(Scenes::rich, x -> x.act(0, 0, 0), x -> x.act(0, 0, 2), x -> x.act(0, 0, 18), x -> x.act(0, 0, 1),
                    x -> x.act(0, 0, 36), x -> x.act(0, 0, -1), x -> x.act(0, 0, 48), x -> x.act(0, 0, MIN), x -> x.act(0, 0, MAX));
            Counted x = Scenes.three();
            yes(x.act(0, 0, 47));
            due(x.of(0, 2), 7);
            due(x.of(0, 3), 5);
            yes(x.act(0, 0, 0));
            due(x.of(0, 2), 0);
            due(x.of(0, 3), 0);
            yes(x.act(0, 1, 47));
            yes(x.act(0, 0, 2));
            due(x.look(11), 4);
        });
        Bench.test("to TUNE one (OFF not 0)", () -> {
            Bench.refused(Scenes::rich, x -> x.act(1, 1, 0), x -> x.act(1, 1, 9));
            Counted x = Scenes.three();
            int[] offs = {1, -1, 50, -50};
            for (int off : offs) {
                x.set(2, 0, off);
                yes(x.act(1, 0, MIN));
                due(x.of(0, 5), 0);
                no(x.act(1, 0, MAX));
                due(x.look(11), 1);
            }
        });
        Bench.test("to STRIKE a NOTE (0 .. 11, not the one he plays, silent or not; AFTER NONE)", () -> {
            Bench.refused(Scenes::rich, x -> x.act(2, 2, -1), x -> x.act(2, 2, 12), x -> x.act(2, 2, MIN), x -> x.act(2, 2, MAX));
            Counted x = Scenes.two();
            yes(x.act(2, 0, 0));
            due(x.of(0, 4), 0);
            no(x.act(2, 0, 0));
            yes(x.act(2, 0, 11));
            due(x.of(0, 4), 11);
            no(x.act(2, 0, 11));
            no(x.act(2, 0, 12));
            no(x.act(2, 0, NONE));
            due(x.look(11), 2);
            x.beats(1);
            due(x.of(1, 6), 0);
            no(x.act(2, 1, 11));
            due(x.of(1, 6), 0);
            yes(x.act(2, 1, 0));
            none(x.of(1, 6));
        });
        Bench.test("to HUSH one who sounds (AFTER NONE, too).", () -> {
            Counted x = Scenes.two();
            no(x.act(3, 0, 0));
            no(x.act(3, 1, 0));
            due(x.look(11), 0);
            x.act(2, 0, 0);
            yes(x.act(3, 0, MIN));
            none(x.of(0, 4));
            no(x.act(3, 0, MAX));
            due(x.look(11), 2);
            x.act(2, 0, 11);
            x.beats(1);
            due(x.of(1, 6), 0);
            yes(x.act(3, 1, 0));
            none(x.of(1, 6));
            none(x.of(1, 4));
        });
        Bench.test("(1, 3: v not asked): true; false if it can't be, or another what.", () -> {
            Bench.refused(Scenes::rich, x -> x.act(-1, 0, 5), x -> x.act(4, 0, 5), x -> x.act(MIN, 0, 5), x -> x.act(MAX, 0, 5));
            Bench.refused(Scenes::rich, x -> x.act(0, 4, 5), x -> x.act(1, 4, 5), x -> x.act(2, 4, 5), x -> x.act(3, 4, 5),
                    x -> x.act(0, -1, 5), x -> x.act(1, -1, 5), x -> x.act(2, -1, 5), x -> x.act(3, -1, 5), x -> x.act(2, 12, 5),
                    x -> x.act(2, MIN, 5), x -> x.act(3, MAX, 5));
            Bench.refused(Scenes::full, x -> x.act(2, 12, 5), x -> x.act(0, 0, 0), x -> x.act(0, 0, 11));
        });
    }

    private static void beats() {
        Bench.test("BEATS go by (1 .. 60): how many notes slipped.", () -> {
            Bench.refused(Scenes::rich, NONE, x -> x.beats(0), x -> x.beats(61), x -> x.beats(-1), x -> x.beats(MIN), x -> x.beats(MAX));
            Counted x = Scenes.two();
            due(x.beats(1), 0);
            due(x.look(3), 1);
            due(x.beats(60), 0);
            due(x.look(3), 61);
            Bench.tell(x, 0, "slips 1000;");
            x.act(2, 0, 0);
            due(x.beats(1), 1);
            due(x.beats(60), 60);
            due(x.of(0, 7) + x.of(1, 7), 61);
        });
        Bench.test("NONE, and nothing is done, if one can't be, or BEAT would be above 9999.", () -> {
            Bench.refused(Scenes::late, NONE, x -> x.beats(1), x -> x.beats(60));
            Counted x = Scenes.two();
            for (int i = 0; i < 165; i++) {
                x.beats(60);
            }
            x.act(2, 0, 3);
            due(x.look(3), 9900);
            due(x.beats(39), 0);
            due(x.look(3), 9939);
            due(x.beats(60), 0);
            due(x.look(3), 9999);
            int sounding = x.look(1);
            none(x.beats(1));
            due(x.look(3), 9999);
            due(x.look(1), sounding);
            due(x.look(11), 6);
            yes(x.undo());
            due(x.look(3), 9998);
            none(x.beats(2));
            due(x.look(3), 9998);
            due(x.beats(1), 0);
            due(x.look(3), 9999);
        });
    }

    private static void asked() {
        Bench.test("4 NOTE (NONE), 5 OFF, 6 AFTER (NONE), 7 WRONG", () -> {
            Counted x = Scenes.two();
            none(x.of(1, 4));
            none(x.of(1, 6));
            x.act(2, 0, 11);
            x.set(2, 0, -50);
            Bench.tell(x, 0, "slips 1000; bends 50;");
            due(x.beats(1), 1);
            due(x.of(1, 4), 0);
            due(x.of(1, 5), -50);
            due(x.of(1, 6), 0);
            due(x.of(1, 7), 1);
            none(x.of(0, 4));
            none(x.of(0, 6));
        });
        Bench.test("8 whom he would follow now (without lines of SCORE; NONE)", () -> {
            Counted x = Scenes.three();
            none(x.of(1, 8));
            x.act(2, 1, 3);
            none(x.of(1, 8));
            due(x.of(0, 8), 1);
            Bench.good(x, 1, "at 0 player 0 note 3;", 1);
            due(x.of(0, 8), 1);
            Bench.tell(x, 0, "hears 0;");
            none(x.of(0, 8));
            Bench.tell(x, 0, "hears 1;");
            due(x.of(0, 8), 1);
            due(x.of(2, 8), 1);
            x.act(2, 0, 3);
            due(x.of(2, 8), 0);
            due(Scenes.full().of(0, 8), 1);
        });
        Bench.test("10 + p hears, 30 + p slips, 50 + p bends of him and PLAYER p (not himself; sounding or not).", () -> {
            Counted x = Scenes.twelve();
            Bench.tell(x, 0, "hears 100+loud; slips 200+loud; bends 20+loud;");
            int[] from = {10, 30, 50};
            int[] sums = {100, 200, 20};
            for (int i = 0; i < 3; i++) {
                due(x.of(5, from[i]), sums[i] + 1);
                due(x.of(5, from[i] + 11), sums[i] + 3);
                due(x.of(5, from[i] + 5), NO_PLAYER);
                due(x.of(0, from[i]), NO_PLAYER);
                due(x.of(11, from[i] + 11), NO_PLAYER);
                due(x.of(5, from[i] + 12), NO_PLAYER);
                due(x.of(5, from[i] - 1), NO_PLAYER);
                due(x.of(5, from[i] + 19), NO_PLAYER);
            }
            x.act(2, 0, 1);
            due(x.of(5, 10), 101);
            Counted three = Scenes.three();
            due(three.of(0, 12), 20);
            due(three.of(0, 13), NO_PLAYER);
            due(three.of(0, 33), NO_PLAYER);
            due(three.of(0, 53), NO_PLAYER);
        });
        Bench.test("NONE - 9999 if there is none such, or another what.", () -> {
            Bench.refused(Scenes::rich, NO_PLAYER, x -> x.of(-1, 0), x -> x.of(4, 0), x -> x.of(12, 8), x -> x.of(MIN, 5),
                    x -> x.of(MAX, 10), x -> x.of(0, -1), x -> x.of(0, 9), x -> x.of(0, 70), x -> x.of(0, MIN), x -> x.of(0, MAX),
                    x -> x.of(0, 10), x -> x.of(0, 30), x -> x.of(0, 50), x -> x.of(0, 14), x -> x.of(0, 34), x -> x.of(0, 54));
            Counted x = Scenes.empty();
            due(x.of(0, 0), -10000);
            due(x.of(0, 8), -10000);
        });
        Bench.test("Of a SEAT what 0 who sits there (NONE), 1 whether a PILLAR stands there.", () -> {
            Counted x = Scenes.three();
            Bench.tell(x, 3, "pillar 7 5; pillar 0 5; pillar 7 0;");
            due(x.seat(0, 0, 0), 0);
            due(x.seat(0, 0, 1), 0);
            none(x.seat(7, 5, 0));
            due(x.seat(7, 5, 1), 1);
            due(x.seat(0, 5, 1), 1);
            due(x.seat(7, 0, 1), 1);
            due(x.seat(6, 5, 1), 0);
            due(x.seat(7, 4, 1), 0);
            due(x.seat(0, 1, 1), 0);
        });
        Bench.test("NONE - 1 if there is none such, or another what.", () ->
            Bench.refused(Scenes::rich, NO_SEAT, x -> x.seat(-1, 0, 0), x -> x.seat(8, 0, 0), x -> x.seat(0, -1, 0),
                    x -> x.seat(0, 6, 0), x -> x.seat(-1, 1, 1), x -> x.seat(8, 0, 1), x -> x.seat(0, 0, -1), x -> x.seat(0, 0, 2),
                    x -> x.seat(MIN, 0, 0), x -> x.seat(0, MAX, 1), x -> x.seat(0, 0, MIN)));
    }

    public static void main(String[] args) throws IOException {
        Bench.open(args);
        theObject();
        draws();
        players();
        told();
        byHand();
        beats();
        asked();
        Bench.close();
    }
}
