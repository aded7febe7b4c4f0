/** Objects in which much is told, so that it shows when a refused call changes something. */
final class Scenes {
    private Scenes() {
    }

    static Counted empty() {
        return new Counted();
    }

    /** Two who hear each other, nobody sounds, no note slips. */
    static Counted two() {
        Counted x = new Counted();
        x.player(9, 0, 0, 0);
        x.player(9, 0, 1, 0);
        Bench.tell(x, 0, "slips 0;");
        return x;
    }

    static Counted three() {
        Counted x = new Counted();
        x.player(9, 5, 0, 0);
        x.player(5, 3, 2, 0);
        x.player(3, 9, 2, 2);
        return x;
    }

    static Counted twelve() {
        Counted x = new Counted();
        for (int i = 0; i < 12; i++) {
            x.player(1 + i % 9, i % 10, i % 8, i / 8);
        }
        return x;
    }

    /** Four players, some of everything, an image, three that can be undone, a fault, twenty bytes on the tape. */
    static Counted rich() {
        Counted x = new Counted();
        x.player(9, 5, 0, 0);
        x.player(5, 3, 2, 0);
        x.player(3, 9, 2, 2);
        x.player(7, 0, 6, 4);
        Bench.tell(x, 3, "pillar 1 0; pillar 4 4;");
        Bench.tell(x, 0, "hears 30*loud-far; slips 400 when beat<3; slips 600;");
        Bench.tell(x, 1, "at 2 player 1 note 3; at 5 player 0 note 11;");
        Bench.tell(x, 2, "at 3 seat 2 5 5; at 4 loud 0 1; at 4 hush 1;");
        x.state(12345);
        x.set(2, 0, -20);
        tellForThought(x);
        x.act(2, 0, 7);
        x.image(true);
        x.note(9);
        x.cost(1, 2, 3);
        x.beats(1);
        x.state(999);
        x.set(2, 1, 20);
        x.beats(1);
        x.act(0, 3, 40);
        x.act(1, 1, 0);
        Bench.tell(x, 3, "pillar 9 9;");
        Bench.feed(x, "hears 2; slips 1;   ");
        return x;
    }

    private static void tellForThought(Counted x) {
        x.cost(0, 1, 5);
        x.cost(2, 3, 9);
        x.cost(0, 5, 1);
        int[] tune = {0, 4, 0, 4, 7};
        for (int v : tune) {
            x.tune(v);
        }
        x.note(0);
        x.note(4);
        x.note(7);
        x.finger(5);
        x.finger(7);
        x.finger(24);
        x.quarrel(0, 1);
        x.quarrel(1, 2);
    }

    /** Twelve players, 150 lines, 400 bytes, six that can be undone, each row full, no image. */
    static Counted full() {
        Counted x = twelve();
        for (int i = 0; i < 12; i++) {
            x.note((i * 5 + 3) % 12);
            x.tune(i * 7 % 25);
        }
        for (int i = 0; i < 10; i++) {
            x.finger(i * 11 % 25);
        }
        for (int i = 0; i < 16; i++) {
            x.quarrel(i % 10, (i + 1 + i / 10) % 10);
        }
        // All slip on each beat, so that the book is soon full.
        Bench.tell(x, 0, "slips 1000; hears 99;");
        x.act(2, 0, 1);
        x.act(2, 1, 6);
        x.beats(20);
        for (int i = 0; i < 20; i++) {
            x.feed(0x68656172, 0x73203120, 0x20202020, 0x20202020, 0x2020203b);
        }
        return x;
    }

    /** Three players of whom one sounds, at BEAT 9999. */
    static Counted late() {
        Counted x = three();
        for (int i = 0; i < 166; i++) {
            x.beats(60);
        }
        x.beats(39);
        x.act(2, 0, 4);
        return x;
    }
}
