import java.io.IOException;

/** Boundary cases of A BEAT: its STAGE, its SCORE, who follows whom, bending, slipping, unisons; and of THE BOOK: promises 6, 13. */
public final class BoundsOfBeats {
    private static final int NONE = Bench.NONE;
    private static final int MIN = Bench.MIN;
    private static final int MAX = Bench.MAX;
    private static final int NO_LINE = NONE - 1;

    private static void due(int got, int want) {
        Bench.due(got, want);
    }

    private static void yes(boolean got) {
        Bench.yes(got);
    }

    private static void none(int got) {
        Bench.none(got);
    }

    private static void good(Counted x, int k, String text, int lines) {
        Bench.good(x, k, text, lines);
    }

    /** What the book has from a line on, four numbers a line, and no line behind them. */
    private static void lines(Counted x, int from, int... due) {
        due(x.look(4), from + due.length / 4);
        for (int i = 0; i < due.length; i++) {
            due(x.book(from + i / 4, i % 4), due[i]);
        }
    }

    private static void goTo(Counted x, int beat) {
        for (int left = beat - x.look(3); left > 0; left -= 60) {
            x.beats(Math.min(60, left));
        }
    }

    private static void stage() {
        Bench.test("seat: he sits there, if there is no PILLAR and nobody (else nothing)", () -> {
            Counted x = Scenes.three();
            good(x, 3, "pillar 4 4;", 1);
            good(x, 2, "at 0 seat 0 4 4; at 1 seat 0 2 0; at 2 seat 0 0 0; at 3 seat 0 7 5; at 3 seat 1 0 0; at 4 seat 1 7 5;", 6);
            x.beats(1);
            due(x.seat(0, 0, 0), 0);
            none(x.seat(4, 4, 0));
            x.beats(1);
            due(x.seat(0, 0, 0), 0);
            due(x.seat(2, 0, 0), 1);
            x.beats(1);
            due(x.seat(0, 0, 0), 0);
            x.beats(1);
            due(x.seat(7, 5, 0), 0);
            due(x.seat(0, 0, 0), 1);
            x.beats(1);
            due(x.seat(7, 5, 0), 0);
            due(x.seat(0, 0, 0), 1);
        });
        Bench.test("(a) Line by line of STAGE for it", () -> {
            // Two can change seats over a third one, line by line; the last line of several counts.
            Counted x = Scenes.two();
            good(x, 2, "at 0 seat 0 5 5; at 0 seat 1 0 0; at 0 seat 0 1 0; at 0 loud 0 1; at 0 loud 0 9; at 0 loud 0 4;", 6);
            x.beats(1);
            due(x.seat(0, 0, 0), 1);
            due(x.seat(1, 0, 0), 0);
            due(x.of(0, 0), 4);
            // BEAT 999 has its line, 998 and 1000 have none.
            x = Scenes.two();
            good(x, 2, "at 999 loud 0 1; at 0 loud 1 2;", 2);
            x.beats(1);
            due(x.of(1, 0), 2);
            yes(x.set(0, 1, 9));
            goTo(x, 999);
            due(x.of(0, 0), 9);
            x.beats(1);
            due(x.look(3), 1000);
            due(x.of(0, 0), 1);
            yes(x.set(0, 0, 9));
            goTo(x, 2001);
            due(x.of(0, 0), 9);
            due(x.of(1, 0), 9);
        });
        Bench.test("loud: LOUD is N; tune: OFF is 0; hush: NOTE is NONE.", () -> {
            Counted x = Scenes.three();
            good(x, 0, "hears 0;", 1);
            good(x, 2, "at 0 loud 0 1; at 0 loud 1 9; at 0 tune 0; at 0 tune 2; at 0 hush 0; at 0 hush 2;", 6);
            x.set(2, 0, -50);
            x.set(2, 1, 50);
            x.act(2, 0, 0);
            x.beats(1);
            due(x.of(0, 0), 1);
            due(x.of(1, 0), 9);
            due(x.of(0, 5), 0);
            due(x.of(1, 5), 50);
            due(x.of(2, 5), 0);
            none(x.of(0, 4));
            none(x.of(2, 4));
            // Whom the stage hushed has no line that he fell silent.
            due(x.look(4), 0);
        });
    }

    private static void score() {
        Bench.test("has he lines of SCORE for this BEAT: NOTE is that of the last of them, AFTER is NONE (OFF stays).", () -> {
            Counted x = Scenes.two();
            good(x, 0, "slips 1000; bends 50;", 2);
            good(x, 1, "at 0 player 0 note 4; at 1 player 1 note 9; at 1 player 1 note 0; at 1 player 0 note 11; at 999 player 1 note 6;", 5);
            x.set(2, 1, 7);
            due(x.beats(1), 0);
            due(x.of(0, 4), 4);
            none(x.of(1, 4));
            due(x.beats(1), 0);
            due(x.of(1, 4), 0);
            none(x.of(1, 6));
            due(x.of(1, 5), 7);
            due(x.of(0, 4), 11);
            due(x.look(5), 0);
            due(x.beats(1), 2);
            due(x.of(0, 6), 1);
            yes(x.act(3, 0, 0));
            yes(x.act(3, 1, 0));
            goTo(x, 999);
            due(x.look(1), 0);
            x.beats(1);
            due(x.look(1), 2);
            due(x.of(1, 4), 6);
        });
        Bench.test("All at once, each by what all were then, PLAYER by PLAYER", () -> {
            // Each follows what the other one was, not what he has become; the draws come by their numbers.
            Counted x = Scenes.two();
            x.act(2, 0, 3);
            x.act(2, 1, 8);
            x.beats(1);
            due(x.of(0, 4), 8);
            due(x.of(1, 4), 3);
            due(x.of(0, 6), 1);
            due(x.of(1, 6), 0);
            x.set(2, 0, 10);
            x.set(2, 1, -10);
            good(x, 0, "slips 0; bends 5;", 2);
            x.beats(1);
            due(x.of(0, 5), 5);
            due(x.of(1, 5), -5);
            // STATE 0: 563 is drawn first, then 577 (of 1196435762), so with 577 player 0 slips alone.
            good(x, 0, "slips 577;", 1);
            x.state(0);
            int note = x.of(1, 4);
            due(x.beats(1), 1);
            due(x.look(5), 1196435762);
            due(x.of(0, 4), note + 1);
            due(x.of(0, 7), 1);
            due(x.of(1, 7), 0);
        });
    }

    private static void hearing() {
        Bench.test("whom he hears most (of several the least number), if that is above 0, he follows", () -> {
            Counted x = Scenes.three();
            x.act(2, 0, 1);
            x.act(2, 1, 2);
            x.act(2, 2, 3);
            good(x, 0, "hears 0; slips 0;", 2);
            none(x.of(0, 8));
            good(x, 0, "hears 0-1; slips 0;", 2);
            none(x.of(0, 8));
            good(x, 0, "hears 1; slips 0;", 2);
            due(x.of(0, 8), 1);
            due(x.of(1, 8), 0);
            due(x.of(2, 8), 0);
            // 999 and what is held to it are alike; the greater of two is followed though its number is greater.
            good(x, 0, "hears 999 when loud=9; hears 9999; slips 0;", 3);
            due(x.of(2, 8), 0);
            good(x, 0, "hears 998 when loud=9; hears 9999; slips 0;", 3);
            due(x.of(2, 8), 1);
            x.beats(1);
            due(x.of(2, 6), 1);
            due(x.of(0, 6), 1);
            due(x.of(1, 6), 2);
            good(x, 0, "hears 0; slips 0;", 2);
            x.beats(1);
            due(x.look(1), 0);
        });
        Bench.test("Else hears is asked of him and each other one who sounds", () -> {
            Counted x = Scenes.three();
            good(x, 0, "hears 1 when note<0; slips 0;", 2);
            x.act(2, 0, 0);
            good(x, 0, "hears 9 when note<0; hears 1; slips 0;", 3);
            // The silent ones would be heard more, and he himself, but none of them is asked.
            none(x.of(0, 8));
            due(x.of(1, 8), 0);
            due(x.of(2, 8), 0);
            x.beats(1);
            due(x.look(1), 6);
        });
        Bench.test("OFF comes so much nearer to his OFF (not beyond)", () -> {
            int[][] cases = {{0, 10, 9, 9}, {0, 10, 10, 10}, {0, 10, 11, 10}, {0, -10, 9, -9}, {0, -10, 10, -10}, {0, -10, 11, -10},
                {50, -50, 50, 0}, {-50, 50, 50, 0}, {-50, 50, 0, -50}, {7, 7, 50, 7}, {-50, -49, 1, -49}, {-50, -49, 50, -49}, {3, -4, 6, -3}};
            for (int[] c : cases) {
                Counted x = Scenes.two();
                good(x, 0, "slips 0; bends " + c[2] + ";", 2);
                x.act(2, 0, 5);
                x.set(2, 1, c[0]);
                x.set(2, 0, c[1]);
                x.beats(1);
                due(x.of(1, 5), c[3]);
                due(x.of(0, 5), c[1]);
            }
        });
        Bench.test("slips is asked of them, is it above 0, a DRAW of 1000", () -> {
            Counted x = Scenes.two();
            x.act(2, 0, 5);
            due(x.beats(1), 0);
            due(x.look(5), 0);
            good(x, 0, "slips 0-1;", 1);
            due(x.beats(1), 0);
            due(x.look(5), 0);
            good(x, 0, "slips 1;", 1);
            due(x.beats(1), 0);
            due(x.look(5), 1013904223);
            good(x, 0, "slips 1000;", 1);
            due(x.beats(1), 1);
            due(x.look(5), 1196435762);
        });
        Bench.test("below it NOTE is the next one behind that (behind 11: 0), WRONG one more (AFTER stays).", () -> {
            int[] notes = {0, 10, 11};
            int[] behind = {1, 11, 0};
            for (int i = 0; i < 3; i++) {
                // STATE 0: 563 is drawn.
                Counted x = Scenes.two();
                good(x, 0, "slips 563;", 1);
                x.act(2, 0, notes[i]);
                due(x.beats(1), 0);
                due(x.of(1, 4), notes[i]);
                due(x.of(1, 7), 0);
                yes(x.undo());
                good(x, 0, "slips 564;", 1);
                due(x.beats(1), 1);
                due(x.of(1, 4), behind[i]);
                due(x.of(1, 7), 1);
                due(x.of(1, 6), 0);
            }
        });
        Bench.test("Does he hear none so: NOTE, AFTER are NONE.", () -> {
            Counted x = Scenes.three();
            good(x, 0, "slips 0;", 1);
            x.act(2, 0, 5);
            x.set(2, 1, 9);
            x.beats(1);
            due(x.of(1, 6), 0);
            good(x, 0, "hears 0;", 1);
            int off = x.of(1, 5);
            x.beats(1);
            for (int p = 0; p < 3; p++) {
                none(x.of(p, 4));
                none(x.of(p, 6));
            }
            due(x.of(1, 5), off);
            due(x.look(5), 0);
        });
        Bench.test("(c) Do two at least sound then, and all that do one NOTE: UNISONS one more. BEAT is one more.", () -> {
            Counted x = Scenes.three();
            good(x, 0, "hears 0;", 1);
            good(x, 1, "at 1 player 0 note 3; at 2 player 0 note 3; at 2 player 2 note 3; at 3 player 0 note 3; at 3 player 2 note 4;"
                    + "at 4 player 0 note 0; at 4 player 1 note 0; at 4 player 2 note 0; at 5 player 0 note 0; at 5 player 1 note 0;"
                    + "at 5 player 2 note 11;", 11);
            int[] unisons = {0, 0, 1, 1, 2, 2};
            for (int i = 0; i < unisons.length; i++) {
                due(x.look(3), i);
                x.beats(1);
                due(x.look(2), unisons[i]);
            }
            due(x.look(3), 6);
        });
    }

    private static void book() {
        Bench.test("THE BOOK (150 lines; no more then)", () -> {
            // Two by turns: a line for each on each beat; then three, whose beat has more lines than are free.
            Counted x = Scenes.two();
            x.act(2, 0, 4);
            x.beats(60);
            x.beats(14);
            due(x.look(4), 148);
            due(x.book(148, 0), NO_LINE);
            due(x.beats(1), 0);
            due(x.look(4), 150);
            due(x.book(149, 0), 74);
            x.beats(1);
            due(x.look(4), 150);
            due(x.book(149, 0), 74);
            due(x.book(150, 0), NO_LINE);
            due(x.look(3), 76);
            yes(x.undo());
            due(x.look(4), 150);
            yes(x.undo());
            due(x.look(4), 148);
            // One line is free behind a beat of one line, and one of two is written.
            good(x, 0, "hears 0;", 1);
            x.beats(1);
            due(x.look(4), 149);
            due(x.book(148, 1), 1);
            good(x, 1, "at 75 player 0 note 3; at 75 player 1 note 3;", 2);
            x.beats(1);
            due(x.look(4), 150);
            due(x.book(149, 0), 75);
            due(x.book(149, 1), 2);
            due(x.book(149, 2), 0);
            due(x.look(2), 1);
        });
        Bench.test("BEAT, what (0 slipped, 1 fell silent, 2 came in, 3 unison), who (3: NONE), how much (0, 2, 3: the NOTE then;"
                + " 1: the NOTE he had when the BEAT began, behind its STAGE)", () -> {
            Counted x = Scenes.three();
            good(x, 0, "slips 1000;", 1);
            x.act(2, 0, 11);
            due(x.beats(1), 2);
            // 0 hears nobody and falls silent; 1 and 2 slip from 11 to 0 and come in; both have 0.
            lines(x, 0, 0, 1, 0, 11, 0, 0, 1, 0, 0, 2, 1, 0, 0, 0, 2, 0, 0, 2, 2, 0, 0, 3, NONE, 0);
        });
        Bench.test("0, 1, 2 of (b) alone, of who sounded or not when the BEAT began, behind its STAGE", () -> {
            // Hushed by the stage: comes in again, or has no line when he stays silent. By hand there is no line.
            Counted x = Scenes.three();
            good(x, 0, "slips 0;", 1);
            good(x, 2, "at 0 hush 1; at 0 hush 2; at 1 hush 1; at 1 hush 2; at 1 hush 0;", 5);
            x.act(2, 0, 4);
            x.act(2, 1, 5);
            x.act(2, 2, 6);
            x.act(3, 2, 0);
            due(x.look(4), 0);
            x.beats(1);
            lines(x, 0, 0, 1, 0, 4, 0, 2, 1, 4, 0, 2, 2, 4, 0, 3, NONE, 4);
            x.beats(1);
            lines(x, 4);
            due(x.look(1), 0);
        });
        Bench.test("0 ahead of 2 (by SCORE, too; the NOTE behind slipping)", () -> {
            Counted x = Scenes.two();
            good(x, 0, "slips 1000;", 1);
            good(x, 1, "at 0 player 0 note 11;", 1);
            x.beats(1);
            lines(x, 0, 0, 2, 0, 11);
            x.beats(1);
            lines(x, 1, 1, 1, 0, 11, 1, 0, 1, 0, 1, 2, 1, 0);
        });
        Bench.test("a NOTE that changes has no line; behind them 3.", () -> {
            Counted x = Scenes.two();
            x.act(2, 0, 3);
            x.act(2, 1, 8);
            x.beats(1);
            due(x.of(0, 4), 8);
            lines(x, 0);
            // By score both have 8: a line of unison alone; the next one by itself, too.
            good(x, 1, "at 1 player 1 note 8; at 1 player 0 note 8;", 2);
            x.beats(1);
            lines(x, 0, 1, 3, NONE, 8);
            x.beats(1);
            lines(x, 1, 2, 3, NONE, 8);
        });
        Bench.test("Of line i of THE BOOK what 0 BEAT, 1 what, 2 who, 3 how much. NONE - 1 if there is none such, or another what.", () -> {
            Bench.refused(Scenes::rich, NO_LINE, x -> x.book(-1, 0), x -> x.book(x.look(4), 0), x -> x.book(0, -1), x -> x.book(0, 4),
                    x -> x.book(MIN, 0), x -> x.book(MAX, 3), x -> x.book(0, MIN), x -> x.book(0, MAX), x -> x.book(536870912, 1),
                    x -> x.book(1 << 30, 0));
            Bench.refused(Scenes::full, NO_LINE, x -> x.book(150, 0), x -> x.book(-1, 3), x -> x.book(149, 4), x -> x.book(149, -1));
            Counted x = Scenes.full();
            due(x.look(4), 150);
            due(x.book(0, 0), 0);
            due(x.book(149, 0) > 0 ? 1 : 0, 1);
            due(Scenes.empty().book(0, 0), NO_LINE);
            // A line that was undone is gone.
            Counted y = Scenes.two();
            y.act(2, 0, 1);
            y.beats(1);
            due(y.book(1, 0), 0);
            yes(y.undo());
            due(y.book(1, 0), NO_LINE);
            due(y.book(0, 0), NO_LINE);
        });
    }

    public static void main(String[] args) throws IOException {
        Bench.open(args);
        stage();
        score();
        hearing();
        book();
        Bench.close();
    }
}
