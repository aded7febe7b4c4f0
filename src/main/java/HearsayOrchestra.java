/**
 * Orchestras seated by hearing: who has no part plays a beat later what he hears loudest from his seat.
 * Everything that is kept is made with the object and used again, so that calls make nothing anew.
 */
public final class HearsayOrchestra {
    public static final int NONE = -1;

    private static final int NO_SUCH_SEAT = NONE - 1;
    private static final int NO_SUCH_LINE = NONE - 1;
    private static final int NO_SUCH_PLAYER = NONE - 9999;
    private static final int NO_SUCH_LOOK = NONE - 99999;

    private static final int MOST_PLAYERS = 12;
    private static final int WIDTH = 8;
    private static final int HEIGHT = 6;
    private static final int SEATS = 48;
    private static final int OCTAVE = 12;
    private static final int ALL_NOTES = 4095;
    private static final int HIGHEST_NOTE = 24;
    private static final int MOST_OFF = 50;
    private static final int LAST_BEAT = 9999;
    private static final int MOST_BEATS = 60;
    private static final int SURE_SLIP = 500;

    private static final int LAW = 0;
    private static final int SCORE = 1;
    private static final int STAGE = 2;
    private static final int PILLARS = 3;
    private static final int MOST_LINES = 16;
    private static final int MOST_OPEN = 8;
    private static final int LAST_WRITTEN_BEAT = 999;
    private static final int TAPE_LENGTH = 400;
    private static final int FED_AT_ONCE = 20;

    private static final int CANT_STAND = 1;
    private static final int CANT_BE = 2;
    private static final int TOO_MANY = 3;

    private static final int SLIPPED = 0;
    private static final int FELL_SILENT = 1;
    private static final int CAME_IN = 2;
    private static final int UNISON = 3;

    private static final int PLAYERS_AT_DESKS = 6;
    private static final int QUARRELLERS = 10;
    private static final int STRINGS = 4;
    private static final int HIGHEST_FRET = 9;
    private static final int MOST_BARRED = 40;
    private static final int BAR_KINDS = 3;
    private static final int MOST_DIVISIONS = 999;
    private static final int NO_WAY = 1000000;

    // A sign's kind is its own number, a word's kind is FIRST_WORD and its place in WORDS.
    private static final int END_OF_TEXT = 0;
    private static final int NO_TOKEN = 1;
    private static final int NUMBER = 2;
    private static final String SIGNS = ";+-*/()<=>";
    private static final int FIRST_WORD = 128;
    private static final String WORDS =
            "hears slips bends when or and not loud ear far pillars off note wrong sounding beat at player seat tune hush pillar ";
    private static final int HEARS = 128;
    private static final int SLIPS = 129;
    private static final int BENDS = 130;
    private static final int WHEN = 131;
    private static final int OR = 132;
    private static final int AND = 133;
    private static final int NOT = 134;
    private static final int LOUD = 135;
    private static final int EAR = 136;
    private static final int FAR = 137;
    private static final int BETWEEN = 138;
    private static final int OFF = 139;
    private static final int NOTE = 140;
    private static final int WRONG = 141;
    private static final int SOUNDING = 142;
    private static final int BEAT = 143;
    private static final int AT = 144;
    private static final int PLAYER = 145;
    private static final int SEAT = 146;
    private static final int TUNE = 147;
    private static final int HUSH = 148;
    private static final int PILLAR = 149;
    private static final int VALUES = 9;

    private final World world;
    private final World kept;
    private final Tape tape;
    private final Reader reader;
    private final Past past;
    private final Hall dream;
    private final Conductor conductor;
    private final Conductor dreamer;
    private final Thought thought;
    private boolean hasImage;

    public HearsayOrchestra() {
        world = new World();
        kept = new World();
        tape = new Tape();
        reader = new Reader(tape, world.hall);
        past = new Past();
        dream = new Hall();
        conductor = new Conductor(world, world.hall, true);
        dreamer = new Conductor(world, dream, false);
        thought = new Thought();
        hasImage = false;
    }

    public int state(int v) {
        int was = world.hall.state;
        world.hall.state = v;
        past.forget();
        return was;
    }

    public int player(int loud, int ear, int x, int y) {
        Hall hall = world.hall;
        if (hall.count >= MOST_PLAYERS || !within(loud, 1, 9) || !within(ear, 0, 9) || !hall.isFree(x, y)) {
            return NONE;
        }
        past.forget();
        return hall.add(loud, ear, x, y);
    }

    public boolean set(int what, int who, int v) {
        Hall hall = world.hall;
        if (!hall.has(who)) {
            return false;
        }
        if (what == 0 && within(v, 1, 9)) {
            hall.louds[who] = v;
        } else if (what == 1 && within(v, 0, 9)) {
            hall.ears[who] = v;
        } else if (what == 2 && within(v, -MOST_OFF, MOST_OFF)) {
            hall.offs[who] = v;
        } else {
            return false;
        }
        past.forget();
        return true;
    }

    public boolean act(int what, int who, int v) {
        Hall hall = world.hall;
        if (!hall.has(who) || !canAct(what, who, v)) {
            return false;
        }
        past.keep(hall, world.book);
        if (what == 0) {
            hall.xs[who] = v % WIDTH;
            hall.ys[who] = v / WIDTH;
        } else if (what == 1) {
            hall.offs[who] = 0;
        } else {
            hall.notes[who] = what == 2 ? v : NONE;
            hall.afters[who] = NONE;
        }
        return true;
    }

    private boolean canAct(int what, int who, int v) {
        Hall hall = world.hall;
        switch (what) {
            case 0:
                return within(v, 0, SEATS - 1) && hall.isFree(v % WIDTH, v / WIDTH);
            case 1:
                return hall.offs[who] != 0;
            case 2:
                return within(v, 0, OCTAVE - 1) && hall.notes[who] != v;
            case 3:
                return hall.notes[who] != NONE;
            default:
                return false;
        }
    }

    public int beats(int n) {
        if (!within(n, 1, MOST_BEATS) || world.hall.beat + n > LAST_BEAT) {
            return NONE;
        }
        int slipped = 0;
        for (int i = 0; i < n; i++) {
            past.keep(world.hall, world.book);
            slipped += conductor.goOn();
        }
        return slipped;
    }

    public int feed(int a, int b, int c, int d, int e) {
        if (tape.size + FED_AT_ONCE > TAPE_LENGTH) {
            return NONE;
        }
        tape.append(a);
        tape.append(b);
        tape.append(c);
        tape.append(d);
        tape.append(e);
        return tape.size;
    }

    public boolean end(int n) {
        if (!within(n, 0, tape.size)) {
            return false;
        }
        tape.size = n;
        return true;
    }

    public int text(int k) {
        int lines = reader.read(k);
        tape.size = 0;
        if (lines == NONE) {
            return NONE;
        }
        if (k == LAW) {
            world.law.copy(reader.law);
            return lines;
        }
        past.forget();
        if (k == SCORE) {
            world.score.copy(reader.sheet);
        } else if (k == STAGE) {
            world.stage.copy(reader.sheet);
        } else {
            world.hall.pillars = reader.pillars;
            world.pillarLines = lines;
        }
        return lines;
    }

    public int fault(int what) {
        if (what == 0) {
            return reader.fault;
        }
        return what == 1 ? reader.place : NONE;
    }

    public int of(int player, int what) {
        Hall hall = world.hall;
        if (!hall.has(player)) {
            return NO_SUCH_PLAYER;
        }
        switch (what) {
            case 0:
                return hall.louds[player];
            case 1:
                return hall.ears[player];
            case 2:
                return hall.xs[player];
            case 3:
                return hall.ys[player];
            case 4:
                return hall.notes[player];
            case 5:
                return hall.offs[player];
            case 6:
                return hall.afters[player];
            case 7:
                return hall.wrongs[player];
            default:
                return heardBy(player, what);
        }
    }

    private int heardBy(int player, int what) {
        if (what == 8) {
            conductor.attend();
            return conductor.loudestFor(player);
        }
        if (!within(what, 10, 69)) {
            return NO_SUCH_PLAYER;
        }
        int other = (what - 10) % 20;
        if (other == player || !world.hall.has(other)) {
            return NO_SUCH_PLAYER;
        }
        conductor.attend();
        return conductor.ask(HEARS + (what - 10) / 20, player, other);
    }

    public int seat(int x, int y, int what) {
        if (!isSeat(x, y)) {
            return NO_SUCH_SEAT;
        }
        if (what == 0) {
            return world.hall.playerOn(x, y);
        }
        if (what == 1) {
            return world.hall.hasPillar(x, y) ? 1 : 0;
        }
        return NO_SUCH_SEAT;
    }

    public int book(int i, int what) {
        if (!within(i, 0, world.book.size - 1) || !within(what, 0, 3)) {
            return NO_SUCH_LINE;
        }
        return world.book.get(i, what);
    }

    public int goes(int n, int what) {
        if (!within(n, 1, MOST_BEATS) || !within(what, 0, 3)) {
            return NONE;
        }
        dream.copy(world.hall);
        for (int i = 0; i < n; i++) {
            dreamer.goOn();
        }
        switch (what) {
            case 0:
                return dream.sounding();
            case 1:
                return dream.unisons;
            case 2:
                return dream.wrongOfAll();
            default:
                return dream.offOfAll();
        }
    }

    public int all() {
        dream.copy(world.hall);
        if (dream.count == 0) {
            return NONE;
        }
        for (int i = 0; i <= MOST_BEATS; i++) {
            if (dream.sounding() == dream.count) {
                return i;
            }
            dreamer.goOn();
        }
        return NONE;
    }

    public int round(int a, int b, int what) {
        if (!isOpen(a) || !isOpen(b) || !within(what, 0, 1)) {
            return NONE;
        }
        thought.spread(world.hall.pillars, a);
        return what == 0 ? thought.stepsTo(b) : thought.seatsNoFurtherThan(b);
    }

    private boolean isOpen(int place) {
        return within(place, 0, SEATS - 1) && !world.hall.hasPillar(place % WIDTH, place / WIDTH);
    }

    public boolean cost(int a, int b, int v) {
        if (!within(a, 0, PLAYERS_AT_DESKS - 1) || !within(b, 0, PLAYERS_AT_DESKS - 1) || a == b || !within(v, 0, 9)) {
            return false;
        }
        world.costs[a * PLAYERS_AT_DESKS + b] = v;
        world.costs[b * PLAYERS_AT_DESKS + a] = v;
        return true;
    }

    public int desks(int n, int what) {
        if (!within(n, 1, PLAYERS_AT_DESKS) || !within(what, 0, 1)) {
            return NONE;
        }
        return thought.bestDesks(world.costs, n, what == 1);
    }

    public int chord(int set, int c) {
        if (!within(set, 0, ALL_NOTES) || !within(c, 0, 6)) {
            return NONE;
        }
        return c == 0 ? Thought.leastSet(set) : Thought.couplesApart(set, c);
    }

    public int note(int v) {
        if (v != NONE && (!within(v, 0, OCTAVE - 1) || world.row.contains(v))) {
            return NONE;
        }
        return world.row.tell(v);
    }

    public int series(int way, int t, int i) {
        if (!within(way, 0, 3) || !within(t, 0, OCTAVE - 1) || !within(i, NONE, world.row.size - 1)) {
            return NONE;
        }
        return i == NONE ? Thought.unlikeSteps(world.row, way) : Thought.noteOfRow(world.row, way, t, i);
    }

    public int tune(int v) {
        if (!within(v, NONE, HIGHEST_NOTE)) {
            return NONE;
        }
        return world.melody.tell(v);
    }

    public int canon(int d, int t, int what) {
        if (!within(t, -OCTAVE, OCTAVE)) {
            return NONE;
        }
        if (what == 2) {
            return Thought.bestDelay(world.melody, t);
        }
        if (!within(d, 1, 11) || !within(what, 0, 1)) {
            return NONE;
        }
        return what == 0 ? Math.max(0, world.melody.size - d) : Thought.sweetCouples(world.melody, d, t);
    }

    public int twice(int what) {
        if (!within(what, 0, 1)) {
            return NONE;
        }
        return Thought.longestTwice(world.melody, what == 1);
    }

    public int hunt(int n, int k, int i) {
        if (!within(n, 3, 8) || !within(k, 0, 99) || !within(i, NONE, n - 1)) {
            return NONE;
        }
        thought.ring(n, k);
        return i == NONE ? thought.bellsOutOfOrder(n) : thought.bellAt(i);
    }

    public int finger(int v) {
        if (!within(v, NONE, HIGHEST_NOTE)) {
            return NONE;
        }
        return world.fingered.tell(v);
    }

    public int fingers(int what) {
        if (!within(what, 0, 1)) {
            return NONE;
        }
        return thought.easiestFingers(world.fingered, what == 1);
    }

    public int quarrel(int a, int b) {
        if (a == NONE) {
            return world.couples.tell(NONE);
        }
        if (!within(a, 0, QUARRELLERS - 1) || !within(b, 0, QUARRELLERS - 1) || a == b) {
            return NONE;
        }
        return world.couples.tell(a * QUARRELLERS + b);
    }

    public int quarrels(int what) {
        if (!within(what, 0, 2)) {
            return NONE;
        }
        return thought.peace(world.couples, what);
    }

    public int bars(int n, int what) {
        if (!within(n, 0, MOST_BARRED) || !within(what, 0, 1)) {
            return NONE;
        }
        return what == 0 ? thought.waysOfBars(n) : thought.fewestBars(n);
    }

    public int scale(int set, int what) {
        if (!within(set, 0, ALL_NOTES) || !within(what, 0, 1)) {
            return NONE;
        }
        return Thought.triads(set, what == 0 ? 4 : 3);
    }

    public int game(int a, int b, int what) {
        if (!within(a, 1, 999) || !within(b, 1, 999) || !within(what, 0, 1)) {
            return NONE;
        }
        int greater = Math.max(a, b);
        int lesser = Math.min(a, b);
        return what == 0 ? Thought.winningTimes(greater, lesser) : Thought.fewestTakings(greater, lesser);
    }

    public boolean undo() {
        return past.goBack(world.hall, world.book);
    }

    public boolean image(boolean taken) {
        if (taken) {
            kept.copy(world);
            hasImage = true;
            return true;
        }
        if (!hasImage) {
            return false;
        }
        world.copy(kept);
        past.forget();
        return true;
    }

    public int look(int what) {
        Hall hall = world.hall;
        switch (what) {
            case 0:
                return hall.count;
            case 1:
                return hall.soundingSet();
            case 2:
                return hall.unisons;
            case 3:
                return hall.beat;
            case 4:
                return world.book.size;
            case 5:
                return hall.state;
            case 6:
                return world.law.size;
            case 7:
                return world.score.size;
            case 8:
                return world.stage.size;
            case 9:
                return world.pillarLines;
            case 10:
                return Long.bitCount(hall.pillars);
            case 11:
                return past.size;
            default:
                return NO_SUCH_LOOK;
        }
    }

    private static boolean within(int v, int least, int most) {
        return v >= least && v <= most;
    }

    private static boolean isSeat(int x, int y) {
        return within(x, 0, WIDTH - 1) && within(y, 0, HEIGHT - 1);
    }

    /** All that an image keeps: what is, and what was told. */
    private static final class World {
        final Hall hall = new Hall();
        final Book book = new Book();
        final Law law = new Law();
        final Sheet score = new Sheet();
        final Sheet stage = new Sheet();
        final int[] costs = new int[PLAYERS_AT_DESKS * PLAYERS_AT_DESKS];
        final Row row = new Row(12);
        final Row melody = new Row(12);
        final Row fingered = new Row(10);
        final Row couples = new Row(16);
        int pillarLines;

        void copy(World other) {
            hall.copy(other.hall);
            book.copy(other.book);
            law.copy(other.law);
            score.copy(other.score);
            stage.copy(other.stage);
            System.arraycopy(other.costs, 0, costs, 0, costs.length);
            row.copy(other.row);
            melody.copy(other.melody);
            fingered.copy(other.fingered);
            couples.copy(other.couples);
            pillarLines = other.pillarLines;
        }
    }

    /** What a beat changes, so that a beat is undone, or thought, by a copy of it. */
    private static final class Hall {
        final int[] louds = new int[MOST_PLAYERS];
        final int[] ears = new int[MOST_PLAYERS];
        final int[] xs = new int[MOST_PLAYERS];
        final int[] ys = new int[MOST_PLAYERS];
        final int[] notes = new int[MOST_PLAYERS];
        final int[] offs = new int[MOST_PLAYERS];
        final int[] afters = new int[MOST_PLAYERS];
        final int[] wrongs = new int[MOST_PLAYERS];
        int count;
        int state;
        int unisons;
        int beat;
        /** Bit 8 y and x: a pillar on that seat. */
        long pillars;

        void copy(Hall other) {
            System.arraycopy(other.louds, 0, louds, 0, MOST_PLAYERS);
            System.arraycopy(other.ears, 0, ears, 0, MOST_PLAYERS);
            System.arraycopy(other.xs, 0, xs, 0, MOST_PLAYERS);
            System.arraycopy(other.ys, 0, ys, 0, MOST_PLAYERS);
            System.arraycopy(other.notes, 0, notes, 0, MOST_PLAYERS);
            System.arraycopy(other.offs, 0, offs, 0, MOST_PLAYERS);
            System.arraycopy(other.afters, 0, afters, 0, MOST_PLAYERS);
            System.arraycopy(other.wrongs, 0, wrongs, 0, MOST_PLAYERS);
            count = other.count;
            state = other.state;
            unisons = other.unisons;
            beat = other.beat;
            pillars = other.pillars;
        }

        boolean has(int player) {
            return player >= 0 && player < count;
        }

        int add(int loud, int ear, int x, int y) {
            if (count >= MOST_PLAYERS) {
                return NONE;
            }
            louds[count] = loud;
            ears[count] = ear;
            xs[count] = x;
            ys[count] = y;
            notes[count] = NONE;
            offs[count] = 0;
            afters[count] = NONE;
            wrongs[count] = 0;
            count++;
            return count - 1;
        }

        int playerOn(int x, int y) {
            for (int p = 0; p < count; p++) {
                if (xs[p] == x && ys[p] == y) {
                    return p;
                }
            }
            return NONE;
        }

        boolean hasPillar(int x, int y) {
            return (pillars >>> (WIDTH * y + x) & 1) == 1;
        }

        boolean isFree(int x, int y) {
            return isSeat(x, y) && !hasPillar(x, y) && playerOn(x, y) == NONE;
        }

        int soundingSet() {
            int set = 0;
            for (int p = 0; p < count; p++) {
                if (notes[p] != NONE) {
                    set |= 1 << p;
                }
            }
            return set;
        }

        int sounding() {
            return Integer.bitCount(soundingSet());
        }

        int wrongOfAll() {
            int sum = 0;
            for (int p = 0; p < count; p++) {
                sum += wrongs[p];
            }
            return sum;
        }

        int offOfAll() {
            int sum = 0;
            for (int p = 0; p < count; p++) {
                sum += Math.abs(offs[p]);
            }
            return sum;
        }

        int draw(int m) {
            state = 1664525 * state + 1013904223;
            return m > 0 ? (state >>> 8) % m : 0;
        }

        /** The note that all who sound have in common, two of them at least. */
        int commonNote() {
            int common = NONE;
            int many = 0;
            for (int p = 0; p < count; p++) {
                if (notes[p] != NONE) {
                    if (many > 0 && notes[p] != common) {
                        return NONE;
                    }
                    common = notes[p];
                    many++;
                }
            }
            return many >= 2 ? common : NONE;
        }

        private int pillarsBetween(int a, int b) {
            if (pillars == 0) {
                return 0;
            }
            int left = Math.min(xs[a], xs[b]);
            int wide = Math.abs(xs[a] - xs[b]) + 1;
            int low = Math.min(ys[a], ys[b]);
            int high = Math.max(ys[a], ys[b]);
            long span = ((1L << wide) - 1) << left;
            int many = 0;
            for (int y = low; y <= high; y++) {
                many += Long.bitCount(pillars >>> (WIDTH * y) & span);
            }
            return many;
        }

        /** What the law's words stand for whoever listens. */
        void weighAll(int[] values) {
            values[SOUNDING - LOUD] = sounding();
            values[BEAT - LOUD] = beat;
        }

        /** What the law's words stand for when one listens to another one. */
        void weighPair(int listener, int other, int[] values) {
            values[LOUD - LOUD] = louds[other];
            values[EAR - LOUD] = ears[listener];
            values[FAR - LOUD] = Math.abs(xs[listener] - xs[other]) + Math.abs(ys[listener] - ys[other]);
            values[BETWEEN - LOUD] = pillarsBetween(listener, other);
            values[OFF - LOUD] = Math.abs(offs[listener] - offs[other]);
            values[NOTE - LOUD] = notes[other];
            values[WRONG - LOUD] = wrongs[listener];
        }
    }

    /** Lines of four numbers: beat, what, who, how much. */
    private static final class Book {
        private static final int MOST = 150;
        private static final int FIELDS = 4;
        private final int[] rows = new int[MOST * FIELDS];
        int size;

        void write(int beat, int what, int who, int much) {
            if (size < MOST) {
                int from = size * FIELDS;
                rows[from] = beat;
                rows[from + 1] = what;
                rows[from + 2] = who;
                rows[from + 3] = much;
                size++;
            }
        }

        int get(int line, int what) {
            int i = line * FIELDS + what;
            return i >= 0 && i < rows.length ? rows[i] : NONE;
        }

        void copy(Book other) {
            System.arraycopy(other.rows, 0, rows, 0, rows.length);
            size = other.size;
        }
    }

    /**
     * The law's lines, told as code that a stack works off: a number stands for itself,
     * the negative of a token's kind for a word's value or for what is done with the stack's top.
     */
    private static final class Law {
        private static final int DEEPEST = 32;
        private final int[] code = new int[TAPE_LENGTH];
        private final int[] lineWords = new int[MOST_LINES];
        private final int[] sums = new int[MOST_LINES];
        private final int[] whens = new int[MOST_LINES];
        private final int[] ends = new int[MOST_LINES];
        private final int[] stack = new int[DEEPEST];
        private int length;
        int size;

        void clear() {
            length = 0;
            size = 0;
        }

        void copy(Law other) {
            System.arraycopy(other.code, 0, code, 0, code.length);
            System.arraycopy(other.lineWords, 0, lineWords, 0, MOST_LINES);
            System.arraycopy(other.sums, 0, sums, 0, MOST_LINES);
            System.arraycopy(other.whens, 0, whens, 0, MOST_LINES);
            System.arraycopy(other.ends, 0, ends, 0, MOST_LINES);
            length = other.length;
            size = other.size;
        }

        void openLine(int word) {
            if (size < MOST_LINES) {
                lineWords[size] = word;
                sums[size] = length;
            }
        }

        void openWhen() {
            if (size < MOST_LINES) {
                whens[size] = length;
            }
        }

        void closeLine() {
            if (size < MOST_LINES) {
                ends[size] = length;
                size++;
            }
        }

        /** Always true, so that it can stand at the end of a chain of what has been read. */
        boolean put(int step) {
            if (length < code.length) {
                code[length] = step;
                length++;
            }
            return true;
        }

        int tell(int word, int[] values) {
            for (int i = 0; i < size; i++) {
                if (lineWords[i] == word && (whens[i] == ends[i] || work(whens[i], ends[i], values) != 0)) {
                    return held(word, work(sums[i], whens[i], values));
                }
            }
            return held(word, unwritten(word, values));
        }

        private static int unwritten(int word, int[] values) {
            if (word == HEARS) {
                return 20 * values[LOUD - LOUD] - 10 * values[FAR - LOUD] - 30 * values[BETWEEN - LOUD];
            }
            return word == SLIPS ? 200 - 20 * values[EAR - LOUD] : values[EAR - LOUD];
        }

        private static int held(int word, int v) {
            if (word == HEARS) {
                return Math.max(-999, Math.min(999, v));
            }
            return Math.max(0, Math.min(word == SLIPS ? 1000 : MOST_OFF, v));
        }

        private int work(int from, int to, int[] values) {
            int top = 0;
            for (int i = from; i < to && top < DEEPEST; i++) {
                int step = code[i];
                if (step >= 0) {
                    stack[top] = step;
                    top++;
                } else if (within(-step, LOUD, BEAT)) {
                    stack[top] = values[-step - LOUD];
                    top++;
                } else if (step == -NOT && top >= 1) {
                    stack[top - 1] = 1 - stack[top - 1];
                } else if (top >= 2) {
                    top--;
                    stack[top - 1] = join(-step, stack[top - 1], stack[top]);
                }
            }
            return stack[0];
        }

        private static int join(int kind, int a, int b) {
            switch (kind) {
                case '+':
                    return a + b;
                case '-':
                    return a - b;
                case '*':
                    return a * b;
                case '/':
                    return b == 0 ? 0 : a / b;
                case '<':
                    return a < b ? 1 : 0;
                case '=':
                    return a == b ? 1 : 0;
                case '>':
                    return a > b ? 1 : 0;
                case AND:
                    return a & b;
                default:
                    return a | b;
            }
        }
    }

    /** Lines of score or of stage: beat, kind, who, and one or two numbers. */
    private static final class Sheet {
        static final int AT_BEAT = 0;
        static final int KIND = 1;
        static final int WHO = 2;
        static final int FIRST = 3;
        static final int SECOND = 4;
        static final int FIELDS = 5;
        private final int[] rows = new int[MOST_LINES * FIELDS];
        int size;

        void clear() {
            size = 0;
        }

        void copy(Sheet other) {
            System.arraycopy(other.rows, 0, rows, 0, rows.length);
            size = other.size;
        }

        /** Always true, so that it can stand at the end of a chain of what has been read. */
        boolean add(int[] line) {
            if (size < MOST_LINES && line.length >= FIELDS) {
                System.arraycopy(line, 0, rows, size * FIELDS, FIELDS);
                size++;
            }
            return true;
        }

        int get(int line, int field) {
            int i = line * FIELDS + field;
            return i >= 0 && i < rows.length ? rows[i] : NONE;
        }

        int lastNoteFor(int player, int beat) {
            for (int i = size - 1; i >= 0; i--) {
                if (get(i, AT_BEAT) == beat && get(i, WHO) == player) {
                    return get(i, FIRST);
                }
            }
            return NONE;
        }
    }

    /** Numbers told one by one, up to so many. */
    private static final class Row {
        private final int[] told;
        int size;

        Row(int most) {
            told = new int[Math.max(0, most)];
        }

        int tell(int v) {
            if (v == NONE) {
                size = 0;
                return 0;
            }
            if (size >= told.length) {
                return NONE;
            }
            told[size] = v;
            size++;
            return size;
        }

        int get(int i) {
            return i >= 0 && i < size ? told[i] : NONE;
        }

        boolean contains(int v) {
            for (int i = 0; i < size; i++) {
                if (told[i] == v) {
                    return true;
                }
            }
            return false;
        }

        void copy(Row other) {
            System.arraycopy(other.told, 0, told, 0, Math.min(told.length, other.told.length));
            size = other.size;
        }
    }

    /** The bytes that were fed, and the tokens that they make. */
    private static final class Tape {
        private final int[] bytes = new int[TAPE_LENGTH];
        private final int[] kinds = new int[TAPE_LENGTH + 1];
        private final int[] places = new int[TAPE_LENGTH + 1];
        private final int[] values = new int[TAPE_LENGTH + 1];
        private int tokens;
        int size;

        void append(int four) {
            for (int shift = 24; shift >= 0; shift -= 8) {
                if (size < TAPE_LENGTH) {
                    bytes[size] = four >>> shift & 255;
                    size++;
                }
            }
        }

        int kind(int token) {
            return token >= 0 && token < tokens ? kinds[token] : END_OF_TEXT;
        }

        int value(int token) {
            return token >= 0 && token < tokens ? values[token] : NONE;
        }

        void scan() {
            tokens = 0;
            int from = 0;
            for (int i = 0; i < TAPE_LENGTH && from < size; i++) {
                int to = behindToken(from);
                if (bytes[from] != ' ' && bytes[from] != '\n') {
                    places[tokens] = from;
                    values[tokens] = 0;
                    kinds[tokens] = kindOf(from, to);
                    tokens++;
                }
                from = to;
            }
        }

        private int behindToken(int from) {
            int to = from + 1;
            if (isLetter(bytes[from])) {
                while (to < size && isLetter(bytes[to])) {
                    to++;
                }
            } else if (isDigit(bytes[from])) {
                while (to < size && isDigit(bytes[to])) {
                    to++;
                }
            }
            return to;
        }

        private int kindOf(int from, int to) {
            int sign = bytes[from];
            if (isLetter(sign)) {
                return wordKind(from, to);
            }
            if (isDigit(sign)) {
                return numberKind(from, to);
            }
            return SIGNS.indexOf((char) sign) >= 0 ? sign : NO_TOKEN;
        }

        private int numberKind(int from, int to) {
            if (to - from > 4) {
                return NO_TOKEN;
            }
            int v = 0;
            for (int i = from; i < to; i++) {
                v = 10 * v + bytes[i] - '0';
            }
            values[tokens] = v;
            return NUMBER;
        }

        private int wordKind(int from, int to) {
            int kind = FIRST_WORD;
            int length = 0;
            boolean same = true;
            for (int i = 0; i < WORDS.length(); i++) {
                char sign = WORDS.charAt(i);
                if (sign == ' ') {
                    if (same && length == to - from) {
                        return kind;
                    }
                    kind++;
                    length = 0;
                    same = true;
                } else {
                    same = same && from + length < to && bytes[from + length] == sign;
                    length++;
                }
            }
            return NO_TOKEN;
        }

        private static boolean isLetter(int sign) {
            return within(sign, 'a', 'z') || within(sign, 'A', 'Z');
        }

        private static boolean isDigit(int sign) {
            return within(sign, '0', '9');
        }
    }

    /**
     * Reads the tape as a text into drafts, from left to right, and stops at the first fault:
     * each fault is told at the token where it is found, so the first found is the first by its place.
     */
    private static final class Reader {
        private final Tape tape;
        private final Hall hall;
        private final int[] line = new int[Sheet.FIELDS];
        private int at;
        final Law law = new Law();
        final Sheet sheet = new Sheet();
        long pillars;
        int fault;
        int place;

        Reader(Tape tape, Hall hall) {
            this.tape = tape;
            this.hall = hall;
            place = NONE;
        }

        /** How many lines; NONE if there is no such text, or a fault. */
        int read(int k) {
            fault = 0;
            place = NONE;
            if (!within(k, LAW, PILLARS)) {
                return NONE;
            }
            at = 0;
            pillars = 0;
            law.clear();
            sheet.clear();
            tape.scan();
            for (int lines = 0; lines <= MOST_LINES; lines++) {
                int kind = tape.kind(at);
                if (kind == END_OF_TEXT) {
                    return lines;
                }
                if (!opensLine(k, kind)) {
                    fail(CANT_STAND);
                    return NONE;
                }
                if (lines == MOST_LINES) {
                    fail(TOO_MANY);
                    return NONE;
                }
                at++;
                if (k == LAW ? !readLawLine(kind) : !readSheetLine(k)) {
                    return NONE;
                }
            }
            return NONE;
        }

        private boolean readSheetLine(int k) {
            if (k == SCORE) {
                return readScoreLine();
            }
            return k == STAGE ? readStageLine() : readPillarLine();
        }

        private static boolean opensLine(int k, int kind) {
            if (k == LAW) {
                return within(kind, HEARS, BENDS);
            }
            return kind == (k == PILLARS ? PILLAR : AT);
        }

        private boolean fail(int what) {
            fault = what;
            place = at < tape.tokens ? tape.places[at] : tape.size;
            return false;
        }

        private boolean take(int kind) {
            if (tape.kind(at) != kind) {
                return fail(CANT_STAND);
            }
            at++;
            return true;
        }

        private boolean takeNumber(int field, int most) {
            if (tape.kind(at) != NUMBER) {
                return fail(CANT_STAND);
            }
            int v = tape.value(at);
            if (v > most) {
                return fail(CANT_BE);
            }
            if (field >= 0 && field < line.length) {
                line[field] = v;
            }
            at++;
            return true;
        }

        private boolean takePlayer() {
            return takeNumber(Sheet.WHO, hall.count - 1);
        }

        private boolean readScoreLine() {
            return takeNumber(Sheet.AT_BEAT, LAST_WRITTEN_BEAT) && take(PLAYER) && takePlayer()
                    && take(NOTE) && takeNumber(Sheet.FIRST, OCTAVE - 1) && take(';') && sheet.add(line);
        }

        private boolean readStageLine() {
            if (!takeNumber(Sheet.AT_BEAT, LAST_WRITTEN_BEAT)) {
                return false;
            }
            int kind = tape.kind(at);
            if (kind != SEAT && kind != LOUD && kind != TUNE && kind != HUSH) {
                return fail(CANT_STAND);
            }
            line[Sheet.KIND] = kind;
            at++;
            if (!takePlayer()) {
                return false;
            }
            if (kind == SEAT && !(takeNumber(Sheet.FIRST, WIDTH - 1) && takeNumber(Sheet.SECOND, HEIGHT - 1))) {
                return false;
            }
            if (kind == LOUD && !takeLoud()) {
                return false;
            }
            return take(';') && sheet.add(line);
        }

        private boolean takeLoud() {
            if (tape.kind(at) == NUMBER && tape.value(at) == 0) {
                return fail(CANT_BE);
            }
            return takeNumber(Sheet.FIRST, 9);
        }

        private boolean readPillarLine() {
            if (!takeNumber(Sheet.FIRST, WIDTH - 1)) {
                return false;
            }
            if (tape.kind(at) == NUMBER && hall.playerOn(line[Sheet.FIRST], tape.value(at)) != NONE) {
                return fail(CANT_BE);
            }
            if (!takeNumber(Sheet.SECOND, HEIGHT - 1) || !take(';')) {
                return false;
            }
            pillars |= 1L << (WIDTH * line[Sheet.SECOND] + line[Sheet.FIRST]);
            return true;
        }

        private boolean readLawLine(int word) {
            law.openLine(word);
            if (!readSum()) {
                return false;
            }
            law.openWhen();
            if (tape.kind(at) == WHEN) {
                at++;
                if (!readEither(0)) {
                    return false;
                }
            }
            law.closeLine();
            return take(';');
        }

        /** Clauses joined by and, and these by or; open tells how many brackets and nots stand open. */
        private boolean readEither(int open) {
            boolean first = true;
            boolean firstOfAll = true;
            for (int i = 0; i < TAPE_LENGTH; i++) {
                if (!readClause(open)) {
                    return false;
                }
                if (!first) {
                    law.put(-AND);
                }
                first = false;
                int kind = tape.kind(at);
                if (kind != AND) {
                    if (!firstOfAll) {
                        law.put(-OR);
                    }
                    firstOfAll = false;
                    first = true;
                    if (kind != OR) {
                        return true;
                    }
                }
                at++;
            }
            return fail(CANT_STAND);
        }

        private boolean readClause(int open) {
            int kind = tape.kind(at);
            if (kind == NOT || kind == '(') {
                if (open >= MOST_OPEN) {
                    return fail(TOO_MANY);
                }
                at++;
                if (kind == NOT) {
                    return readClause(open + 1) && law.put(-NOT);
                }
                return readEither(open + 1) && take(')');
            }
            if (!readSum()) {
                return false;
            }
            int sign = tape.kind(at);
            if (sign != '<' && sign != '=' && sign != '>') {
                return fail(CANT_STAND);
            }
            at++;
            return readSum() && law.put(-sign);
        }

        /** A + or - waits in pending till the product behind it is read. */
        private boolean readSum() {
            int pending = 0;
            boolean good = readUnit();
            for (int i = 0; i < TAPE_LENGTH && good; i++) {
                int kind = tape.kind(at);
                if (kind != '+' && kind != '-' && kind != '*' && kind != '/') {
                    break;
                }
                at++;
                if (kind == '*') {
                    good = readUnit() && law.put(-kind);
                } else if (kind == '/') {
                    good = readDivisor() && law.put(-kind);
                } else {
                    if (pending != 0) {
                        law.put(-pending);
                    }
                    pending = kind;
                    good = readUnit();
                }
            }
            if (good && pending != 0) {
                law.put(-pending);
            }
            return good;
        }

        private boolean readUnit() {
            int kind = tape.kind(at);
            if (kind == NUMBER) {
                law.put(tape.value(at));
            } else if (within(kind, LOUD, BEAT)) {
                law.put(-kind);
            } else {
                return fail(CANT_STAND);
            }
            at++;
            return true;
        }

        private boolean readDivisor() {
            if (tape.kind(at) != NUMBER) {
                return fail(CANT_STAND);
            }
            if (tape.value(at) == 0) {
                return fail(CANT_BE);
            }
            law.put(tape.value(at));
            at++;
            return true;
        }
    }

    /** The halls before the latest beats and acts by hand. */
    private static final class Past {
        private static final int KEPT = 6;
        private final Hall[] halls = new Hall[KEPT];
        private final int[] bookSizes = new int[KEPT];
        private int next;
        int size;

        Past() {
            for (int i = 0; i < KEPT; i++) {
                halls[i] = new Hall();
            }
        }

        void keep(Hall hall, Book book) {
            halls[next].copy(hall);
            bookSizes[next] = book.size;
            next = (next + 1) % KEPT;
            size = Math.min(KEPT, size + 1);
        }

        /** The book only grows between, so its old size brings its old lines back. */
        boolean goBack(Hall hall, Book book) {
            if (size == 0) {
                return false;
            }
            next = (next + KEPT - 1) % KEPT;
            size--;
            hall.copy(halls[next]);
            book.size = bookSizes[next];
            return true;
        }

        void forget() {
            size = 0;
        }
    }

    /** Lets beats go by in a hall: really, with draws and lines in the book, or in thought, without. */
    private static final class Conductor {
        private final World world;
        private final Hall hall;
        private final boolean real;
        private final Hall before = new Hall();
        private final int[] values = new int[VALUES];

        Conductor(World world, Hall hall, boolean real) {
            this.world = world;
            this.hall = hall;
            this.real = real;
        }

        /** From now on all is asked as the hall is now, whatever changes in it. */
        void attend() {
            before.copy(hall);
            before.weighAll(values);
        }

        int ask(int word, int listener, int other) {
            before.weighPair(listener, other, values);
            return world.law.tell(word, values);
        }

        int loudestFor(int listener) {
            int loudest = NONE;
            int most = 0;
            for (int p = 0; p < before.count; p++) {
                if (p != listener && before.notes[p] != NONE) {
                    int heard = ask(HEARS, listener, p);
                    if (heard > most) {
                        most = heard;
                        loudest = p;
                    }
                }
            }
            return loudest;
        }

        /** One beat: how many notes slipped. */
        int goOn() {
            setStage();
            attend();
            int slipped = 0;
            for (int p = 0; p < before.count; p++) {
                slipped += play(p) ? 1 : 0;
            }
            int common = hall.commonNote();
            if (common != NONE) {
                hall.unisons++;
                write(UNISON, NONE, common);
            }
            hall.beat++;
            return slipped;
        }

        private void write(int what, int who, int much) {
            if (real) {
                world.book.write(before.beat, what, who, much);
            }
        }

        private void setStage() {
            Sheet stage = world.stage;
            for (int i = 0; i < stage.size; i++) {
                int who = stage.get(i, Sheet.WHO);
                if (stage.get(i, Sheet.AT_BEAT) == hall.beat && hall.has(who)) {
                    direct(stage.get(i, Sheet.KIND), who, stage.get(i, Sheet.FIRST), stage.get(i, Sheet.SECOND));
                }
            }
        }

        private void direct(int kind, int who, int first, int second) {
            if (kind == SEAT) {
                if (hall.isFree(first, second)) {
                    hall.xs[who] = first;
                    hall.ys[who] = second;
                }
            } else if (kind == LOUD) {
                hall.louds[who] = first;
            } else if (kind == TUNE) {
                hall.offs[who] = 0;
            } else {
                hall.notes[who] = NONE;
            }
        }

        /** Whether his note slipped. */
        private boolean play(int p) {
            int written = world.score.lastNoteFor(p, before.beat);
            int leader = written == NONE ? loudestFor(p) : NONE;
            boolean slipped = false;
            hall.afters[p] = leader;
            if (leader == NONE) {
                hall.notes[p] = written;
            } else {
                slipped = follow(p, leader);
            }
            int was = before.notes[p];
            if (slipped) {
                write(SLIPPED, p, hall.notes[p]);
            }
            if (was != NONE && hall.notes[p] == NONE) {
                write(FELL_SILENT, p, was);
            } else if (was == NONE && hall.notes[p] != NONE) {
                write(CAME_IN, p, hall.notes[p]);
            }
            return slipped;
        }

        private boolean follow(int p, int leader) {
            int apart = before.offs[leader] - before.offs[p];
            int bend = Math.min(Math.abs(apart), ask(BENDS, p, leader));
            hall.offs[p] = before.offs[p] + (apart < 0 ? -bend : bend);
            hall.notes[p] = before.notes[leader];
            if (!slips(ask(SLIPS, p, leader))) {
                return false;
            }
            hall.notes[p] = (before.notes[leader] + 1) % OCTAVE;
            hall.wrongs[p]++;
            return true;
        }

        private boolean slips(int likely) {
            if (!real) {
                return likely >= SURE_SLIP;
            }
            return likely > 0 && hall.draw(1000) < likely;
        }
    }

    /** What is answered in thought, with rows that are used again. */
    private static final class Thought {
        private final int[] steps = new int[SEATS];
        private final int[] queue = new int[SEATS];
        private final int[] order = new int[PLAYERS_AT_DESKS];
        private final int[] bells = new int[8];
        private final int[] hates = new int[QUARRELLERS];
        private final int[] costs = new int[STRINGS];
        private final int[] costsBehind = new int[STRINGS];
        private final int[] ended = new int[(MOST_BARRED + 1) * BAR_KINDS];

        /** How many steps each seat is from the one where it starts; NONE where no way leads. */
        void spread(long pillars, int start) {
            for (int s = 0; s < SEATS; s++) {
                steps[s] = NONE;
            }
            if (!within(start, 0, SEATS - 1)) {
                return;
            }
            steps[start] = 0;
            queue[0] = start;
            int waiting = 1;
            for (int done = 0; done < waiting && done < SEATS; done++) {
                int s = queue[done];
                int x = s % WIDTH;
                int y = s / WIDTH;
                waiting = reach(pillars, s, y > 0 ? s - WIDTH : NONE, waiting);
                waiting = reach(pillars, s, x < WIDTH - 1 ? s + 1 : NONE, waiting);
                waiting = reach(pillars, s, y < HEIGHT - 1 ? s + WIDTH : NONE, waiting);
                waiting = reach(pillars, s, x > 0 ? s - 1 : NONE, waiting);
            }
        }

        private int reach(long pillars, int from, int to, int waiting) {
            if (to == NONE || (pillars >>> to & 1) == 1 || steps[to] != NONE || waiting >= SEATS) {
                return waiting;
            }
            steps[to] = steps[from] + 1;
            queue[waiting] = to;
            return waiting + 1;
        }

        int stepsTo(int s) {
            return within(s, 0, SEATS - 1) ? steps[s] : NONE;
        }

        int seatsNoFurtherThan(int s) {
            int furthest = stepsTo(s);
            if (furthest == NONE) {
                return NONE;
            }
            int many = 0;
            for (int i = 0; i < SEATS; i++) {
                if (within(steps[i], 0, furthest)) {
                    many++;
                }
            }
            return many;
        }

        /** Orders come from the least on, so the first of the cheapest is the least. */
        int bestDesks(int[] told, int n, boolean asOrder) {
            for (int i = 0; i < PLAYERS_AT_DESKS; i++) {
                order[i] = i;
            }
            int least = costOfOrder(told, n);
            int best = orderAsNumber(n);
            for (int i = 0; i < 720 && nextOrder(n); i++) {
                int sum = costOfOrder(told, n);
                if (sum < least) {
                    least = sum;
                    best = orderAsNumber(n);
                }
            }
            return asOrder ? best : least;
        }

        private int costOfOrder(int[] told, int n) {
            int sum = 0;
            for (int i = 0; i < n; i++) {
                for (int j = i + 1; j < n; j++) {
                    sum += (j - i) * told[order[i] * PLAYERS_AT_DESKS + order[j]];
                }
            }
            return sum;
        }

        private int orderAsNumber(int n) {
            int number = 0;
            for (int i = 0; i < n; i++) {
                number = 10 * number + order[i];
            }
            return number;
        }

        private boolean nextOrder(int n) {
            int i = n - 2;
            while (i >= 0 && order[i] > order[i + 1]) {
                i--;
            }
            if (i < 0) {
                return false;
            }
            int j = n - 1;
            while (j > i && order[j] < order[i]) {
                j--;
            }
            exchange(order, i, j);
            int low = i + 1;
            int high = n - 1;
            while (low < high) {
                exchange(order, low, high);
                low++;
                high--;
            }
            return true;
        }

        private static void exchange(int[] row, int i, int j) {
            int kept = row[i];
            row[i] = row[j];
            row[j] = kept;
        }

        private static int moved(int set, int by) {
            return (set << by | set >>> (OCTAVE - by)) & ALL_NOTES;
        }

        static int leastSet(int set) {
            int about = 0;
            for (int k = 0; k < OCTAVE; k++) {
                if ((set >>> k & 1) == 1) {
                    about |= 1 << (OCTAVE - k) % OCTAVE;
                }
            }
            int least = set;
            for (int by = 0; by < OCTAVE; by++) {
                least = Math.min(least, Math.min(moved(set, by), moved(about, by)));
            }
            return least;
        }

        /** A couple half the round apart is met from both its notes. */
        static int couplesApart(int set, int c) {
            int met = Integer.bitCount(set & moved(set, c));
            return c == 6 ? met / 2 : met;
        }

        static int triads(int set, int third) {
            return Integer.bitCount(set & moved(set, OCTAVE - third) & moved(set, OCTAVE - 7));
        }

        static int noteOfRow(Row row, int way, int t, int i) {
            int v = row.get(way >= 2 ? row.size - 1 - i : i);
            int turned = way % 2 == 1 ? 2 * row.get(0) - v : v;
            return Math.floorMod(turned + t, OCTAVE);
        }

        static int unlikeSteps(Row row, int way) {
            int set = 0;
            for (int i = 1; i < row.size; i++) {
                int step = noteOfRow(row, way, 0, i) - noteOfRow(row, way, 0, i - 1);
                set |= 1 << Math.floorMod(step, OCTAVE);
            }
            return Integer.bitCount(set);
        }

        static int sweetCouples(Row melody, int d, int t) {
            int many = 0;
            for (int i = 0; i + d < melody.size; i++) {
                int apart = Math.abs(melody.get(i + d) - melody.get(i) - t) % OCTAVE;
                if (apart == 0 || apart == 3 || apart == 4 || within(apart, 7, 9)) {
                    many++;
                }
            }
            return many;
        }

        static int bestDelay(Row melody, int t) {
            int best = NONE;
            int most = NONE;
            for (int d = 1; d < melody.size; d++) {
                int many = sweetCouples(melody, d, t);
                if (many > most) {
                    most = many;
                    best = d;
                }
            }
            return best;
        }

        static int longestTwice(Row melody, boolean asPlace) {
            int longest = 0;
            int place = NONE;
            for (int i = 0; i < melody.size; i++) {
                for (int j = i + 1; j < melody.size; j++) {
                    int length = alike(melody, i, j);
                    if (length > longest) {
                        longest = length;
                        place = i;
                    }
                }
            }
            return asPlace ? place : longest;
        }

        private static int alike(Row melody, int i, int j) {
            int length = 0;
            while (j + length < melody.size && melody.get(i + length) == melody.get(j + length)) {
                length++;
            }
            return length;
        }

        void ring(int n, int changes) {
            for (int i = 0; i < bells.length; i++) {
                bells[i] = i;
            }
            int most = Math.min(n, bells.length);
            for (int k = 0; k < changes; k++) {
                for (int i = k % 2; i + 1 < most; i += 2) {
                    exchange(bells, i, i + 1);
                }
            }
        }

        int bellAt(int i) {
            return within(i, 0, bells.length - 1) ? bells[i] : NONE;
        }

        int bellsOutOfOrder(int n) {
            int many = 0;
            for (int i = 0; i < Math.min(n, bells.length); i++) {
                for (int j = 0; j < i; j++) {
                    many += bells[j] > bells[i] ? 1 : 0;
                }
            }
            return many;
        }

        /** From the last note back to the first, so that the first one's string is known at the end. */
        int easiestFingers(Row notes, boolean asString) {
            for (int s = 0; s < STRINGS; s++) {
                costs[s] = 0;
            }
            for (int i = notes.size - 1; i >= 0; i--) {
                for (int s = 0; s < STRINGS; s++) {
                    costsBehind[s] = costs[s];
                }
                for (int s = 0; s < STRINGS; s++) {
                    costs[s] = costOnString(notes, i, s);
                }
            }
            int best = 0;
            for (int s = 1; s < STRINGS; s++) {
                best = costs[s] < costs[best] ? s : best;
            }
            if (notes.size == 0) {
                return asString ? NONE : 0;
            }
            if (costs[best] >= NO_WAY) {
                return NONE;
            }
            return asString ? best : costs[best];
        }

        private int costOnString(Row notes, int i, int s) {
            int fret = notes.get(i) - 5 * s;
            if (!within(fret, 0, HIGHEST_FRET)) {
                return NO_WAY;
            }
            if (i == notes.size - 1) {
                return 0;
            }
            int least = NO_WAY;
            for (int to = 0; to < STRINGS; to++) {
                int apart = Math.abs(notes.get(i + 1) - 5 * to - fret) + 2 * Math.abs(to - s);
                least = Math.min(least, costsBehind[to] + apart);
            }
            return least;
        }

        /** What 0 how many at most, 1 in how many ways, 2 the least set. */
        int peace(Row couples, int what) {
            for (int i = 0; i < QUARRELLERS; i++) {
                hates[i] = 0;
            }
            for (int i = 0; i < couples.size; i++) {
                int couple = Math.max(0, couples.get(i));
                int a = couple / QUARRELLERS % QUARRELLERS;
                int b = couple % QUARRELLERS;
                hates[a] |= 1 << b;
            }
            int most = NONE;
            int ways = 0;
            int least = 0;
            for (int set = 0; set < 1 << QUARRELLERS; set++) {
                int many = Integer.bitCount(set);
                if (many >= most && isPeaceful(set)) {
                    ways = many > most ? 1 : ways + 1;
                    least = many > most ? set : least;
                    most = many;
                }
            }
            if (what == 0) {
                return most;
            }
            return what == 1 ? ways : least;
        }

        private boolean isPeaceful(int set) {
            for (int i = 0; i < QUARRELLERS; i++) {
                if ((set >>> i & 1) == 1 && (hates[i] & set) != 0) {
                    return false;
                }
            }
            return true;
        }

        /** ended[3 n + k]: of n beats, what ends with a bar of 2 + k. */
        int waysOfBars(int n) {
            int all = 1;
            for (int i = 0; i <= Math.min(n, MOST_BARRED); i++) {
                all = i == 0 ? 1 : 0;
                for (int k = 0; k < BAR_KINDS; k++) {
                    int rest = i - 2 - k;
                    int ways = rest == 0 ? 1 : 0;
                    for (int other = 0; other < BAR_KINDS && rest > 0; other++) {
                        ways += other == k ? 0 : ended[BAR_KINDS * rest + other];
                    }
                    ended[BAR_KINDS * i + k] = ways;
                    all += ways;
                }
            }
            return all;
        }

        int fewestBars(int n) {
            int fewest = 0;
            for (int i = 0; i <= Math.min(n, MOST_BARRED); i++) {
                fewest = i == 0 ? 0 : NO_WAY;
                for (int k = 0; k < BAR_KINDS; k++) {
                    int rest = i - 2 - k;
                    int bars = rest == 0 ? 1 : NO_WAY;
                    for (int other = 0; other < BAR_KINDS && rest > 0; other++) {
                        bars = other == k ? bars : Math.min(bars, 1 + ended[BAR_KINDS * rest + other]);
                    }
                    ended[BAR_KINDS * i + k] = bars;
                    fewest = Math.min(fewest, bars);
                }
            }
            return fewest >= NO_WAY ? NONE : fewest;
        }

        /**
         * Who takes wins at once if nothing is left over, and with a choice of times can always leave
         * the other one the side of it that loses.
         */
        static int winningTimes(int greater, int lesser) {
            if (lesser <= 0) {
                return NONE;
            }
            int times = greater / lesser;
            int left = greater % lesser;
            if (left == 0) {
                return times;
            }
            if (!wins(lesser, left)) {
                return times;
            }
            return times >= 2 ? times - 1 : NONE;
        }

        private static boolean wins(int greater, int lesser) {
            boolean mine = true;
            int a = greater;
            int b = lesser;
            for (int i = 0; i < MOST_DIVISIONS && b > 0 && a % b != 0 && a / b == 1; i++) {
                int left = a % b;
                a = b;
                b = left;
                mine = !mine;
            }
            return mine;
        }

        /** To take as often as it goes is never longer. */
        static int fewestTakings(int greater, int lesser) {
            int many = 0;
            int a = greater;
            int b = lesser;
            for (int i = 0; i < MOST_DIVISIONS && b > 0; i++) {
                int left = a % b;
                a = b;
                b = left;
                many++;
            }
            return many;
        }
    }
}
