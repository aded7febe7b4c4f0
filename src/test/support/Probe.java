import java.util.ArrayList;
import java.util.List;

/** All that can be seen of an object, the dearest things first and what changes it last. */
final class Probe {
    private final Counted x;
    private final List<String> seen = new ArrayList<>();

    private Probe(Counted x) {
        this.x = x;
    }

    static List<String> all(Counted x) {
        Probe probe = new Probe(x);
        probe.see(x.fault(0));
        probe.see(x.fault(1));
        probe.hall();
        probe.thought();
        probe.past();
        probe.image();
        probe.tape();
        return probe.seen;
    }

    static List<String> butTape(Counted x) {
        Probe probe = new Probe(x);
        probe.hall();
        probe.thought();
        probe.past();
        probe.image();
        return probe.seen;
    }

    private int see(int answer) {
        seen.add(Bench.latestCall() + " = " + answer);
        return answer;
    }

    private boolean see(boolean answer) {
        return see(answer ? 1 : 0) == 1;
    }

    private void hall() {
        int count = 0;
        int lines = 0;
        for (int what = 0; what <= 11; what++) {
            int answer = see(x.look(what));
            count = what == 0 ? answer : count;
            lines = what == 4 ? answer : lines;
        }
        for (int p = 0; p < count; p++) {
            for (int what = 0; what <= 7; what++) {
                see(x.of(p, what));
            }
        }
        for (int p = 0; p + 1 < count; p += 3) {
            for (int what = 10; what <= 50; what += 20) {
                see(x.of(p, what + p + 1));
            }
        }
        for (int place = 0; place < 48; place++) {
            see(x.seat(place % 8, place / 8, 1));
        }
        for (int i = Math.max(0, lines - 4); i < lines; i++) {
            for (int what = 0; what < 4; what++) {
                see(x.book(i, what));
            }
        }
    }

    private void thought() {
        for (int what = 0; what < 4; what++) {
            see(x.goes(4, what));
        }
        for (int i = 0; i < 12; i++) {
            see(x.series(0, 0, i));
        }
        for (int d = 1; d < 5; d++) {
            see(x.canon(d, 0, 0));
            see(x.canon(d, 1, 1));
        }
        for (int what = 0; what < 2; what++) {
            see(x.desks(6, what));
            see(x.twice(what));
            see(x.fingers(what));
            see(x.quarrels(what + 1));
        }
    }

    /** The hall in few words. */
    private void look() {
        for (int what = 0; what <= 5; what++) {
            see(x.look(what));
        }
        see(x.of(0, 2));
        see(x.of(0, 4));
        see(x.of(0, 5));
        see(x.of(1, 6));
    }

    private void past() {
        boolean more = true;
        for (int i = 0; i < 7 && more; i++) {
            more = see(x.undo());
            if (more) {
                look();
            }
        }
    }

    private void image() {
        if (see(x.image(false))) {
            look();
            for (int what = 6; what <= 11; what++) {
                see(x.look(what));
            }
            see(x.series(0, 0, x.note(NOTE_BEHIND) - 1));
            see(x.canon(1, 0, 0));
            see(x.desks(6, 0));
            see(x.fingers(0));
            see(x.quarrels(0));
        }
    }

    private static final int NOTE_BEHIND = 11;

    private void tape() {
        see(x.text(0));
        see(x.fault(0));
        see(x.fault(1));
        see(x.look(6));
        see(x.of(0, 11));
    }
}
