import java.io.IOException;

/** Boundary cases of UNDO, THE IMAGE and look(): promises 33 to 35. */
public final class BoundsOfUndo {
    private static final int NONE = Bench.NONE;
    private static final int MIN = Bench.MIN;
    private static final int MAX = Bench.MAX;

    private static void due(int got, int want) {
        Bench.due(got, want);
    }

    private static void yes(boolean got) {
        Bench.yes(got);
    }

    private static void no(boolean got) {
        Bench.no(got);
    }

    private static void none(int got) {
        Bench.none(got);
    }

    /** Three who can play, of whom the first was struck: one that can be undone. */
    private static Counted struck() {
        Counted x = Scenes.three();
        Bench.tell(x, 0, "slips 0;");
        yes(x.act(2, 0, 4));
        due(x.look(11), 1);
        return x;
    }

    private static void undo() {
        Bench.test("the latest BEAT, SEATING, TUNING, STRIKING, HUSHING by hand not undone yet goes back (STATE, THE BOOK, too)", () -> {
            Counted x = Scenes.three();
            Bench.tell(x, 0, "slips 1000;");
            Bench.tell(x, 2, "at 0 seat 2 7 5; at 0 loud 2 1; at 0 tune 2;");
            x.set(2, 0, 50);
            x.set(2, 2, 9);
            yes(x.act(2, 0, 11));
            yes(x.act(0, 0, 47 - 8));
            yes(x.act(1, 0, 0));
            // From 7 4 both hear him, 1 by 180 less 90: two draws.
            due(x.beats(1), 2);
            int drawn = 1196435762;
            due(x.look(5), drawn);
            due(x.look(2), 1);
            yes(x.act(3, 1, 0));
            none(x.of(1, 6));
            yes(x.undo());
            due(x.look(1) >> 1 & 1, 1);
            due(x.of(1, 6), 0);
            due(x.look(5), drawn);
            yes(x.act(2, 1, 7));
            none(x.of(1, 6));
            yes(x.undo());
            due(x.of(1, 6), 0);
            yes(x.undo());
            due(x.look(3), 0);
            due(x.look(4), 0);
            due(x.look(5), 0);
            due(x.look(2), 0);
            due(x.of(2, 2), 2);
            due(x.of(2, 0), 3);
            due(x.of(2, 5), 9);
            due(x.of(1, 7), 0);
            none(x.of(1, 6));
            none(x.of(1, 4));
            due(x.of(0, 5), 0);
            yes(x.undo());
            due(x.of(0, 5), 50);
            due(x.of(0, 3), 4);
            yes(x.undo());
            due(x.of(0, 2), 0);
            due(x.of(0, 3), 0);
            due(x.of(0, 4), 11);
            yes(x.undo());
            none(x.of(0, 4));
            no(x.undo());
        });
        Bench.test("6 are kept", () -> {
            Counted x = Scenes.three();
            for (int i = 0; i <= 6; i++) {
                due(x.look(11), Math.min(i, 6));
                yes(x.act(2, 0, i));
            }
            due(x.look(11), 6);
            for (int i = 5; i >= 0; i--) {
                yes(x.undo());
                due(x.of(0, 4), i);
                due(x.look(11), i);
            }
            no(x.undo());
            due(x.of(0, 4), 0);
            // Three undone and four more: six, and what lies ahead of them is not undone.
            for (int i = 1; i <= 6; i++) {
                x.act(2, 0, i);
            }
            x.undo();
            x.undo();
            x.undo();
            for (int i = 8; i <= 11; i++) {
                x.act(2, 0, i);
            }
            due(x.look(11), 6);
            int[] back = {10, 9, 8, 3, 2, 1};
            for (int note : back) {
                yes(x.undo());
                due(x.of(0, 4), note);
            }
            no(x.undo());
            // Of sixty beats six go back.
            x.beats(60);
            due(x.look(11), 6);
            for (int i = 59; i >= 54; i--) {
                yes(x.undo());
                due(x.look(3), i);
            }
            no(x.undo());
            due(x.look(3), 54);
        });
        Bench.test("`boolean undo()`: UNDO: true; false if there is nothing.", () -> {
            no(Scenes.empty().undo());
            Bench.refused(Scenes::twelve, x -> x.undo());
            Bench.refused(BoundsOfUndo::forgotten, x -> x.undo());
            Counted x = struck();
            yes(x.undo());
            no(x.undo());
            none(x.of(0, 4));
        });
        Bench.test("whatever else is told but THE LAW and what is told for thought (DESKS, SERIES, CANON, FINGERS, QUARRELS)", () -> {
            Bench.Doing[] forget = {x -> x.state(0), x -> x.state(1), x -> x.player(1, 1, 7, 5), x -> x.set(0, 0, 9), x -> x.set(1, 0, 0),
                x -> x.set(2, 0, 0), x -> x.text(1), x -> x.text(2), x -> x.text(3),
                x -> Bench.tell(x, 1, "at 0 player 0 note 0;"), x -> Bench.tell(x, 2, "at 0 hush 0;"), x -> Bench.tell(x, 3, "pillar 7 5;")};
            for (Bench.Doing call : forget) {
                Counted x = struck();
                call.on(x);
                due(x.look(11), 0);
                no(x.undo());
                due(x.of(0, 4), 4);
                yes(x.act(2, 0, 5));
                due(x.look(11), 1);
            }
            Bench.Doing[] keep = {x -> x.text(0), x -> Bench.tell(x, 0, "hears 9;"), x -> x.cost(0, 1, 9), x -> x.note(5), x -> x.note(NONE),
                x -> x.tune(5), x -> x.tune(NONE), x -> x.finger(5), x -> x.finger(NONE), x -> x.quarrel(0, 1), x -> x.quarrel(NONE, 0)};
            keptBehind(keep);
            // What is told for thought, and the law, stay when a beat goes back.
            Counted x = struck();
            x.beats(1);
            Bench.tell(x, 0, "hears 9; slips 7; bends 5;");
            x.cost(0, 1, 9);
            x.note(5);
            x.tune(3);
            x.tune(3);
            x.finger(0);
            x.finger(24);
            x.quarrel(0, 1);
            yes(x.undo());
            due(x.look(3), 0);
            due(x.look(6), 3);
            due(x.of(0, 31), 7);
            due(x.desks(2, 0), 9);
            due(x.series(0, 0, 0), 5);
            due(x.twice(0), 1);
            due(x.fingers(0), 15);
            due(x.quarrels(0), 9);
        });
        Bench.test("(feed(), end(), what is refused, a text with a FAULT, the taking of THE IMAGE do not)", () -> {
            Bench.Doing[] keep = {x -> x.feed(0, 0, 0, 0, 0), x -> x.end(0), x -> x.end(1), x -> x.image(true),
                x -> x.image(false), x -> x.player(0, 0, 7, 5), x -> x.player(1, 1, 0, 0), x -> x.set(0, 0, 0), x -> x.set(3, 0, 1),
                x -> x.set(0, 3, 1), x -> x.act(2, 0, 4), x -> x.act(1, 0, 0), x -> x.act(0, 0, 0),
                x -> x.act(3, 1, 0), x -> x.act(4, 0, 0), x -> x.beats(0), x -> x.beats(61), x -> x.text(-1), x -> x.text(4),
                x -> Bench.tell(x, 0, "x"), x -> Bench.tell(x, 1, "x"), x -> Bench.tell(x, 2, "x"), x -> Bench.tell(x, 3, "x"),
                x -> x.cost(0, 0, 0), x -> x.note(12), x -> x.tune(25), x -> x.finger(25), x -> x.quarrel(0, 0),
                x -> x.goes(60, 0), x -> x.all(), x -> x.look(11), x -> x.of(0, 8), x -> x.fault(0)};
            keptBehind(keep);
        });
    }

    private static void keptBehind(Bench.Doing[] keep) {
        for (Bench.Doing call : keep) {
            Counted x = struck();
            call.on(x);
            due(x.look(11), 1);
            yes(x.undo());
            none(x.of(0, 4));
        }
    }

    /** Much was done, and what was done is forgotten. */
    private static Counted forgotten() {
        Counted x = Scenes.rich();
        x.state(77);
        return x;
    }

    private static Counted fullLessOne() {
        Counted x = Scenes.full();
        x.undo();
        return x;
    }

    private static void image() {
        Bench.test("THE IMAGE is taken (true), or gone back to (false): true; false if there is none.", () -> {
            Bench.refused(Scenes::full, x -> x.image(false));
            Bench.refused(BoundsOfUndo::fullLessOne, x -> x.image(false));
            Counted x = Scenes.empty();
            no(x.image(false));
            yes(x.image(true));
            yes(x.image(false));
            yes(x.image(false));
        });
        Bench.test("THE IMAGE: all that is and was told but the TAPE, fault() and what can be undone (nothing then), as it was when it was taken", () -> {
            // The image of an empty hall, gone back to from one that is full of things.
            Counted x = Scenes.empty();
            yes(x.image(true));
            fill(x);
            Bench.bad(x, 3, "pillar 9 9;", 2, 7);
            Bench.feed(x, "slips 9;");
            yes(x.image(false));
            for (int what = 0; what <= 11; what++) {
                due(x.look(what), 0);
            }
            for (int place = 0; place < 48; place++) {
                none(x.seat(place % 8, place / 8, 0));
                due(x.seat(place % 8, place / 8, 1), 0);
            }
            due(x.book(0, 0), NONE - 1);
            due(x.desks(6, 0), 0);
            due(x.series(0, 0, NONE), 0);
            due(x.canon(1, 0, 0), 0);
            none(x.fingers(1));
            due(x.quarrels(0), 10);
            no(x.undo());
            due(x.fault(0), 2);
            due(x.fault(1), 7);
            due(x.text(0), 1);
            due(x.player(1, 1, 0, 0), 0);
            due(x.note(3), 1);
            due(x.tune(3), 1);
            due(x.finger(3), 1);
            due(x.quarrel(3, 4), 1);
        });
        Bench.test("gone back to it may be more than once.", () -> {
            // From what is empty, and from the image itself, to one that is full of things.
            Counted x = Scenes.empty();
            fill(x);
            yes(x.image(true));
            int[] looks = new int[12];
            for (int what = 0; what < 11; what++) {
                looks[what] = x.look(what);
            }
            for (int again = 0; again < 4; again++) {
                if (again % 2 == 0) {
                    spoil(x);
                }
                yes(x.image(false));
                for (int what = 0; what <= 11; what++) {
                    due(x.look(what), looks[what]);
                }
                due(x.of(11, 4), 6);
                due(x.of(11, 5), -50);
                due(x.desks(6, 0), 9);
                due(x.series(0, 0, 0), 0);
                due(x.series(0, 0, 1), 11);
                due(x.book(0, 1), 1);
                due(x.book(0, 3), 1);
                // Of 2, 9 and 11, one seat away each, the least.
                due(x.of(10, 6), 2);
                due(x.canon(1, 0, 0), 1);
                due(x.fingers(0), 15);
                due(x.quarrels(0), 9);
                due(x.of(0, 31), 1000);
                due(x.seat(7, 5, 1), 1);
            }
            x.beats(1);
            due(x.look(11), 1);
            yes(x.undo());
            no(x.undo());
        });
        Bench.test("(nothing then)", () -> {
            Counted x = struck();
            yes(x.image(true));
            due(x.look(11), 1);
            yes(x.undo());
            none(x.of(0, 4));
            yes(x.image(false));
            due(x.of(0, 4), 4);
            due(x.look(11), 0);
            no(x.undo());
            due(x.of(0, 4), 4);
            yes(x.act(2, 0, 5));
            yes(x.image(false));
            due(x.of(0, 4), 4);
            no(x.undo());
            // Lines of the book that were undone and written anew come back as they were.
            yes(x.act(2, 0, 11));
            x.beats(1);
            due(x.book(0, 3), 11);
            yes(x.image(true));
            yes(x.undo());
            yes(x.act(2, 0, 3));
            x.beats(1);
            due(x.book(0, 3), 3);
            yes(x.image(false));
            due(x.book(0, 3), 11);
            // Taken anew it is another one.
            yes(x.act(2, 0, 9));
            yes(x.image(true));
            yes(x.act(2, 0, 10));
            yes(x.image(false));
            due(x.of(0, 4), 9);
        });
    }

    private static void fill(Counted x) {
        for (int i = 0; i < 12; i++) {
            x.player(9, 9, i % 8, i / 8);
        }
        Bench.tell(x, 3, "pillar 7 5;");
        Bench.tell(x, 0, "slips 1000;");
        Bench.tell(x, 1, "at 2 player 0 note 0;");
        Bench.tell(x, 2, "at 2 tune 0;");
        x.state(5);
        x.set(2, 11, -50);
        x.cost(4, 5, 9);
        x.note(0);
        x.note(11);
        x.tune(1);
        x.tune(1);
        x.finger(0);
        x.finger(24);
        x.quarrel(0, 1);
        x.act(2, 0, 1);
        x.beats(2);
        x.act(2, 11, 6);
        x.set(2, 11, -50);
    }

    private static void spoil(Counted x) {
        x.beats(3);
        for (int k = 0; k < 4; k++) {
            x.text(k);
        }
        x.state(0);
        x.set(2, 11, 50);
        x.cost(4, 5, 0);
        x.note(NONE);
        x.tune(NONE);
        x.finger(NONE);
        x.quarrel(NONE, 0);
        x.act(0, 0, 47);
        x.act(3, 10, 0);
        x.act(3, 11, 0);
        x.note(5);
    }

    private static void look() {
        Bench.test("What 0 PLAYERS, 1 who sounds (a set), 2 UNISONS, 3 BEAT, 4 lines of THE BOOK, 5 STATE, 6 lines of THE LAW, 7 of SCORE,"
                + " 8 of STAGE, 9 of PILLARS, 10 how many SEATS have a PILLAR, 11 what can be undone.", () -> {
            Counted x = Scenes.twelve();
            due(x.look(0), 12);
            due(x.look(1), 0);
            x.act(2, 0, 0);
            due(x.look(1), 1);
            x.act(2, 11, 11);
            due(x.look(1), 2049);
            for (int i = 1; i < 11; i++) {
                x.act(2, i, i);
            }
            due(x.look(1), 4095);
            due(x.look(11), 6);
            due(x.look(2), 0);
            String[] line = {"slips 0;", "at 1 player 0 note 1;", "at 1 hush 0;", "pillar 7 5;"};
            for (int k = 0; k < 4; k++) {
                due(x.look(6 + k), 0);
                Bench.good(x, k, Bench.times(16, line[k]), 16);
                due(x.look(6 + k), 16);
            }
            due(x.look(10), 1);
            StringBuilder pillars = new StringBuilder();
            for (int i = 0; i < 16; i++) {
                pillars.append("pillar ").append(i % 8).append(' ').append(4 + i / 8).append(';');
            }
            Bench.good(x, 3, pillars.toString(), 16);
            due(x.look(10), 16);
            due(x.look(11), 0);
            due(Scenes.full().look(4), 150);
            due(Scenes.late().look(3), 9999);
        });
        Bench.test("NONE - 99999 for another what. (STATE as it is.)", () -> {
            Bench.refused(Scenes::rich, NONE - 99999, x -> x.look(-1), x -> x.look(12), x -> x.look(MIN), x -> x.look(MAX));
            Counted x = Scenes.empty();
            int[] states = {-1, MIN, MAX, NONE - 99999, 0};
            for (int v : states) {
                x.state(v);
                due(x.look(5), v);
                due(x.look(5), v);
            }
        });
    }

    /** Each call once on an object of which everything is known: what it does not change is as it was. */
    private static void promised() {
        Bench.test("Nothing is promised beyond the answers and state changes described above", () -> {
            asked();
            told();
        });
    }

    private static void asked() {
        Bench.Call[] calls = {x -> x.fault(0), x -> x.of(0, 8), x -> x.of(0, 11), x -> x.of(3, 50), x -> x.seat(0, 0, 0), x -> x.seat(1, 0, 1),
            x -> x.book(7, 0), x -> x.goes(60, 1), x -> x.round(0, 47, 0), x -> x.round(0, 0, 1), x -> x.desks(6, 0), x -> x.desks(2, 1),
            x -> x.chord(137, 0), x -> x.chord(145, 4), x -> x.series(2, 0, 0), x -> x.series(0, 0, NONE), x -> x.canon(1, 0, 0),
            x -> x.canon(1, 0, 2), x -> x.twice(0), x -> x.twice(1), x -> x.hunt(3, 0, 1), x -> x.fingers(0), x -> x.fingers(1),
            x -> x.quarrels(1), x -> x.quarrels(2), x -> x.bars(7, 0), x -> x.bars(7, 1), x -> x.scale(145, 0), x -> x.game(8, 3, 0),
            x -> x.game(3, 2, 1), x -> x.look(3), x -> x.look(12), x -> x.end(20) ? 1 : 0};
        // 59: by score one of four has another note at first, from BEAT 3 on all slip to one.
        int[] answers = {2, 3, 148, 0, 0, 1,
            1, 59, 12, 1, 18, 1,
            137, 1, 9, 3, 4,
            1, 2, 0, 1, 10, 0,
            1, 1021, 3, 2, 1, 2,
            2, 2, NONE - 99999, 1};
        for (int i = 0; i < calls.length; i++) {
            new Pinned().behind(calls[i], answers[i]);
        }
    }

    private static void told() {
        new Pinned().forgotten().but("look 5", 7).but("STATE behind it", 7).behind(x -> x.state(7), -1515193845);
        new Pinned().forgotten().but("look 0", 5).behind(x -> x.player(1, 1, 7, 5), 4);
        new Pinned().forgotten().but("of 3 0", 1).behind(x -> x.set(0, 3, 1) ? 1 : 0, 1);
        new Pinned().forgotten().but("of 3 1", 9).behind(x -> x.set(1, 3, 9) ? 1 : 0, 1);
        new Pinned().forgotten().but("of 3 5", 50).behind(x -> x.set(2, 3, 50) ? 1 : 0, 1);
        new Pinned().but("order", 51234).but("desks", 13).but("image's desks", 15).behind(x -> x.cost(1, 0, 0) ? 1 : 0, 1);
        new Pinned().but("series 4", 5).behind(x -> x.note(5), 5);
        new Pinned().but("together 1", 5).but("together 2", 4).but("together 3", 3).but("together 4", 2)
                .but("canon 2", 4).but("canon 3", 3).but("canon 4", 2).behind(x -> x.tune(8), 6);
        new Pinned().but("fingers", 25).behind(x -> x.finger(0), 4);
        new Pinned().but("peace", 8).but("peaceful", 1021 - 512).behind(x -> x.quarrel(9, 8), 3);
        // The law that is empty then: 100 less 20 less 30.
        new Pinned().but("tape", 0).but("hears then", 50).behind(x -> x.end(0) ? 1 : 0, 1);
        new Pinned().but("tape", NONE).but("hears then", 148).behind(x -> x.feed(0, 0, 0, 0, 0), 40);
        new Pinned().but("tape", 0).but("hears then", 50).but("look 6", 2).but("hears", 2).but("slips", 1).but("fault", 0).but("place", NONE)
                .behind(x -> x.text(0), 2);
        new Pinned().but("tape", 0).but("hears then", 50).but("fault", 1).but("place", 0).behind(x -> x.text(1), NONE);
        new Pinned().but("tape", 0).but("hears then", 50).but("fault", 0).but("place", NONE).behind(x -> x.text(4), NONE);
    }

    public static void main(String[] args) throws IOException {
        Bench.open(args);
        undo();
        image();
        look();
        promised();
        Bench.close();
    }
}
