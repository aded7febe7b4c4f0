/** An orchestra whose calls are counted and written down: the document speaks of 512 calls on one object alone. */
final class Counted {
    private static final int MOST_CALLS = 512;
    private static final int TOLD_CALLS = 12;
    private final HearsayOrchestra x = new HearsayOrchestra();
    private final String[] latest = new String[TOLD_CALLS];
    private int calls;

    private int said(String call, int answer) {
        latest[calls % TOLD_CALLS] = call + " = " + answer;
        calls++;
        if (calls > MOST_CALLS) {
            Bench.fail("more than " + MOST_CALLS + " calls on one object: " + call);
        }
        Bench.latest(this, call);
        return answer;
    }

    private boolean said(String call, boolean answer) {
        said(call, answer ? 1 : 0);
        return answer;
    }

    int calls() {
        return calls;
    }

    String run() {
        StringBuilder told = new StringBuilder();
        for (int i = Math.max(0, calls - TOLD_CALLS); i < calls; i++) {
            told.append("        ").append(latest[i % TOLD_CALLS]).append('\n');
        }
        return told.toString();
    }

    int state(int v) {
        return said("state(" + v + ")", x.state(v));
    }

    int player(int loud, int ear, int a, int b) {
        return said("player(" + loud + ", " + ear + ", " + a + ", " + b + ")", x.player(loud, ear, a, b));
    }

    boolean set(int what, int who, int v) {
        return said("set(" + what + ", " + who + ", " + v + ")", x.set(what, who, v));
    }

    boolean act(int what, int who, int v) {
        return said("act(" + what + ", " + who + ", " + v + ")", x.act(what, who, v));
    }

    int beats(int n) {
        return said("beats(" + n + ")", x.beats(n));
    }

    int feed(int a, int b, int c, int d, int e) {
        return said("feed(" + a + ", " + b + ", " + c + ", " + d + ", " + e + ")", x.feed(a, b, c, d, e));
    }

    boolean end(int n) {
        return said("end(" + n + ")", x.end(n));
    }

    int text(int k) {
        return said("text(" + k + ")", x.text(k));
    }

    int fault(int what) {
        return said("fault(" + what + ")", x.fault(what));
    }

    int of(int player, int what) {
        return said("of(" + player + ", " + what + ")", x.of(player, what));
    }

    int seat(int a, int b, int what) {
        return said("seat(" + a + ", " + b + ", " + what + ")", x.seat(a, b, what));
    }

    int book(int i, int what) {
        return said("book(" + i + ", " + what + ")", x.book(i, what));
    }

    int goes(int n, int what) {
        return said("goes(" + n + ", " + what + ")", x.goes(n, what));
    }

    int all() {
        return said("all()", x.all());
    }

    int round(int a, int b, int what) {
        return said("round(" + a + ", " + b + ", " + what + ")", x.round(a, b, what));
    }

    boolean cost(int a, int b, int v) {
        return said("cost(" + a + ", " + b + ", " + v + ")", x.cost(a, b, v));
    }

    int desks(int n, int what) {
        return said("desks(" + n + ", " + what + ")", x.desks(n, what));
    }

    int chord(int set, int c) {
        return said("chord(" + set + ", " + c + ")", x.chord(set, c));
    }

    int note(int v) {
        return said("note(" + v + ")", x.note(v));
    }

    int series(int way, int t, int i) {
        return said("series(" + way + ", " + t + ", " + i + ")", x.series(way, t, i));
    }

    int tune(int v) {
        return said("tune(" + v + ")", x.tune(v));
    }

    int canon(int d, int t, int what) {
        return said("canon(" + d + ", " + t + ", " + what + ")", x.canon(d, t, what));
    }

    int twice(int what) {
        return said("twice(" + what + ")", x.twice(what));
    }

    int hunt(int n, int k, int i) {
        return said("hunt(" + n + ", " + k + ", " + i + ")", x.hunt(n, k, i));
    }

    int finger(int v) {
        return said("finger(" + v + ")", x.finger(v));
    }

    int fingers(int what) {
        return said("fingers(" + what + ")", x.fingers(what));
    }

    int quarrel(int a, int b) {
        return said("quarrel(" + a + ", " + b + ")", x.quarrel(a, b));
    }

    int quarrels(int what) {
        return said("quarrels(" + what + ")", x.quarrels(what));
    }

    int bars(int n, int what) {
        return said("bars(" + n + ", " + what + ")", x.bars(n, what));
    }

    int scale(int set, int what) {
        return said("scale(" + set + ", " + what + ")", x.scale(set, what));
    }

    int game(int a, int b, int what) {
        return said("game(" + a + ", " + b + ", " + what + ")", x.game(a, b, what));
    }

    boolean undo() {
        return said("undo()", x.undo());
    }

    boolean image(boolean taken) {
        return said("image(" + taken + ")", x.image(taken));
    }

    int look(int what) {
        return said("look(" + what + ")", x.look(what));
    }
}
