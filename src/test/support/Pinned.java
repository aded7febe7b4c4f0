import java.util.ArrayList;
import java.util.List;

/** What is seen of Scenes.rich(), worked out by hand: a change that two objects alike would both show is seen here. */
final class Pinned {
    private static final int NONE = Bench.NONE;
    private static final int[] LOOKS = {4, 15, 0, 2, 8, -1515193845, 3, 2, 3, 2, 2, 3};
    private static final int[][] PLAYERS = {{9, 5, 0, 0, 8, -15, 3, 1}, {5, 3, 2, 0, 8, 0, 3, 2}, {3, 9, 2, 2, 7, 0, 3, 0}, {7, 0, 0, 5, 8, 0, 1, 0}};
    private static final int[][] LINES = {{0, 1, 0, 7}, {0, 0, 1, 8}, {0, 2, 1, 8}, {0, 2, 2, 7}, {0, 2, 3, 7}, {1, 0, 0, 8}, {1, 2, 0, 8}, {1, 0, 1, 8}};
    private final List<String> names = new ArrayList<>();
    private final List<Bench.Call> calls = new ArrayList<>();
    private final List<Integer> answers = new ArrayList<>();

    Pinned() {
        for (int what = 0; what < 12; what++) {
            int w = what;
            pin("look " + what, x -> x.look(w), LOOKS[what]);
        }
        for (int i = 0; i < 32; i++) {
            int p = i / 8;
            int w = i % 8;
            pin("of " + p + " " + w, x -> x.of(p, w), PLAYERS[p][w]);
            int line = i / 4;
            int field = i % 4;
            pin("book " + line + " " + field, x -> x.book(line, field), LINES[line][field]);
        }
        pin("pillar", x -> x.seat(1, 0, 1), 1);
        pin("another pillar", x -> x.seat(4, 4, 1), 1);
        pin("no pillar", x -> x.seat(0, 1, 1), 0);
        pin("fault", x -> x.fault(0), 2);
        pin("place", x -> x.fault(1), 7);
        pin("hears", x -> x.of(0, 11), 148);
        pin("slips", x -> x.of(0, 31), 400);
        told();
        changed();
    }

    private void told() {
        // A row 5 0 1 2 3, with 4 at an end.
        pin("desks", x -> x.desks(6, 0), 18);
        pin("order", x -> x.desks(6, 1), 321054);
        int[] row = {0, 4, 7, 9, NONE};
        for (int i = 0; i < 5; i++) {
            int at = i;
            pin("series " + i, x -> x.series(0, 0, at), row[i]);
        }
        int[] sweet = {4, 3, 2, 1};
        for (int i = 0; i < 4; i++) {
            int d = i + 1;
            pin("together " + d, x -> x.canon(d, 0, 0), 5 - d);
            pin("canon " + d, x -> x.canon(d, 0, 1), sweet[i]);
        }
        pin("twice", x -> x.twice(0), 2);
        pin("fingers", x -> x.fingers(0), 10);
        pin("peace", x -> x.quarrels(0), 9);
        pin("peaceful", x -> x.quarrels(2), 1021);
    }

    /** Last, as these change what they are asked of. */
    private void changed() {
        pin("tape", x -> x.text(0), 2);
        pin("hears then", x -> x.of(0, 11), 2);
        pin("undone", x -> x.undo() ? 1 : 0, 1);
        pin("OFF behind it", x -> x.of(1, 5), 17);
        pin("undone again", x -> x.undo() ? 1 : 0, 1);
        pin("seat behind it", x -> x.of(3, 2), 6);
        pin("beat undone", x -> x.undo() ? 1 : 0, 1);
        pin("BEAT behind it", x -> x.look(3), 1);
        pin("STATE behind it", x -> x.look(5), 999);
        pin("lines behind it", x -> x.look(4), 5);
        pin("no more", x -> x.undo() ? 1 : 0, 0);
        pin("image", x -> x.image(false) ? 1 : 0, 1);
        int[] looks = {4, 1, 0, 0, 0, 12345, 3, 2, 3, 2, 2, 0};
        for (int what = 0; what < 12; what++) {
            int w = what;
            pin("image's look " + what, x -> x.look(w), looks[what]);
        }
        pin("image's OFF", x -> x.of(0, 5), -20);
        pin("image's NOTE", x -> x.of(0, 4), 7);
        pin("image's series", x -> x.series(0, 0, 3), NONE);
        pin("image's desks", x -> x.desks(6, 0), 15);
        pin("image's tune", x -> x.twice(0), 2);
        pin("image's fingers", x -> x.fingers(0), 10);
        pin("image's quarrels", x -> x.quarrels(0), 9);
    }

    private void pin(String name, Bench.Call call, int answer) {
        names.add(name);
        calls.add(call);
        answers.add(answer);
    }

    Pinned but(String name, int answer) {
        int i = names.indexOf(name);
        if (i < 0) {
            Bench.fail("nothing is pinned as " + name);
            return this;
        }
        answers.set(i, answer);
        return this;
    }

    /** What can be undone is forgotten. */
    Pinned forgotten() {
        return but("look 11", 0).but("undone", 0).but("undone again", 0).but("beat undone", 0).but("BEAT behind it", 2)
                .but("STATE behind it", LOOKS[5]).but("lines behind it", 8).but("seat behind it", 0).but("OFF behind it", 0);
    }

    /** The call, which answers so, leaves all that is pinned. */
    void behind(Bench.Call call, int answer) {
        Counted x = Scenes.rich();
        Bench.due(call.on(x), answer);
        String first = Bench.latestCall();
        for (int i = 0; i < calls.size(); i++) {
            Bench.due(first + ", then " + names.get(i), calls.get(i).on(x), answers.get(i));
        }
    }
}
