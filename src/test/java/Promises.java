/** For each promise of the document calls whose answers were worked out by hand from its words. */
public final class Promises {
    private static final int NONE = -1;
    private static int wrong = 0;
    private static int promise = 0;
    private static int asked = 0;

    private static void due(String call, int got, int want) {
        asked++;
        if (got != want) {
            wrong++;
            System.out.println("promise " + promise + ": " + call + " answered " + got + ", due is " + want);
        }
    }

    private static void due(String call, boolean got, boolean want) {
        due(call, got ? 1 : 0, want ? 1 : 0);
    }

    /** Feeds a text, with blanks behind it that are cut off again. */
    private static void feed(HearsayOrchestra x, String text) {
        for (int from = 0; from < text.length(); from += 20) {
            int[] five = new int[5];
            for (int i = 0; i < 20; i++) {
                int sign = from + i < text.length() ? text.charAt(from + i) : ' ';
                five[i / 4] = five[i / 4] << 8 | sign & 255;
            }
            x.feed(five[0], five[1], five[2], five[3], five[4]);
        }
        if (!x.end(text.length())) {
            wrong++;
            System.out.println("promise " + promise + ": the tape did not take " + text);
        }
    }

    private static int tell(HearsayOrchestra x, int k, String text) {
        feed(x, text);
        return x.text(k);
    }

    private static void good(HearsayOrchestra x, int k, String text, int lines) {
        due("text(" + k + ") of '" + text + "'", tell(x, k, text), lines);
        due("fault(0) of '" + text + "'", x.fault(0), 0);
        due("fault(1) of '" + text + "'", x.fault(1), NONE);
    }

    private static void bad(HearsayOrchestra x, int k, String text, int fault, int place) {
        due("text(" + k + ") of '" + text + "'", tell(x, k, text), NONE);
        due("fault(0) of '" + text + "'", x.fault(0), fault);
        due("fault(1) of '" + text + "'", x.fault(1), place);
    }

    private static HearsayOrchestra three() {
        HearsayOrchestra x = new HearsayOrchestra();
        x.player(9, 5, 0, 0);
        x.player(5, 3, 2, 0);
        x.player(3, 9, 2, 2);
        return x;
    }

    private static String times(int n, String text) {
        StringBuilder all = new StringBuilder();
        for (int i = 0; i < n; i++) {
            all.append(text);
        }
        return all.toString();
    }

    private static void newObject() {
        HearsayOrchestra x = new HearsayOrchestra();
        for (int what = 0; what <= 11; what++) {
            due("look(" + what + ")", x.look(what), 0);
        }
        for (int y = 0; y < 6; y++) {
            for (int c = 0; c < 8; c++) {
                due("seat who", x.seat(c, y, 0), NONE);
                due("seat pillar", x.seat(c, y, 1), 0);
            }
        }
        due("NONE", HearsayOrchestra.NONE, -1);
        due("fault(0)", x.fault(0), 0);
        due("fault(1)", x.fault(1), NONE);
        due("undo", x.undo(), false);
        due("image", x.image(false), false);
        due("end(0)", x.end(0), true);
        due("end(1)", x.end(1), false);
        due("series", x.series(0, 0, NONE), 0);
        due("desks", x.desks(6, 0), 0);
        due("desks", x.desks(6, 1), 12345);
    }

    private static void state() {
        HearsayOrchestra x = three();
        due("state(5)", x.state(5), 0);
        due("state(-7)", x.state(-7), 5);
        due("state(min)", x.state(Integer.MIN_VALUE), -7);
        due("look(5)", x.look(5), Integer.MIN_VALUE);
        x.act(2, 0, 1);
        due("kept", x.look(11), 1);
        due("state", x.state(Integer.MIN_VALUE), Integer.MIN_VALUE);
        due("state forgets what can be undone", x.look(11), 0);
        // 1664525 * 1 + 1013904223 = 1015568748; without its lowest 8 bits 3967065, modulo 1000: 65.
        x = new HearsayOrchestra();
        x.player(9, 0, 0, 0);
        x.player(9, 0, 1, 0);
        x.state(1);
        tell(x, 0, "slips 65;");
        x.act(2, 0, 11);
        due("65 is not below 65", x.beats(1), 0);
        due("drawn", x.look(5), 1015568748);
        due("undo", x.undo(), true);
        due("STATE goes back", x.look(5), 1);
        tell(x, 0, "slips 66;");
        due("65 is below 66", x.beats(1), 1);
        due("behind 11: 0", x.of(1, 4), 0);
        // A state below 0 is drawn without its sign.
        int s = 2;
        while (1664525 * s + 1013904223 >= 0 || -(1664525 * s + 1013904223) / 256 % 1000 < 500) {
            s++;
        }
        int drawn = 1664525 * s + 1013904223;
        int rest = (int) ((drawn & 0xffffffffL) / 256 % 1000);
        x.undo();
        x.state(s);
        tell(x, 0, "slips " + rest + ";");
        due("not below", x.beats(1), 0);
        due("drawn", x.look(5), drawn);
        due("undo", x.undo(), true);
        tell(x, 0, "slips " + (rest + 1) + ";");
        due("below", x.beats(1), 1);
    }

    private static void player() {
        HearsayOrchestra x = new HearsayOrchestra();
        due("loud 0", x.player(0, 0, 0, 0), NONE);
        due("loud 10", x.player(10, 0, 0, 0), NONE);
        due("ear -1", x.player(1, -1, 0, 0), NONE);
        due("ear 10", x.player(1, 10, 0, 0), NONE);
        due("x -1", x.player(1, 0, -1, 0), NONE);
        due("x 8", x.player(1, 0, 8, 0), NONE);
        due("y -1", x.player(1, 0, 0, -1), NONE);
        due("y 6", x.player(1, 0, 0, 6), NONE);
        due("extremes", x.player(Integer.MAX_VALUE, Integer.MIN_VALUE, Integer.MAX_VALUE, Integer.MIN_VALUE), NONE);
        due("look(0)", x.look(0), 0);
        good(x, 3, "pillar 3 3;", 1);
        due("on a pillar", x.player(1, 0, 3, 3), NONE);
        due("first", x.player(1, 0, 7, 5), 0);
        due("taken", x.player(9, 9, 7, 5), NONE);
        for (int i = 1; i < 12; i++) {
            due("next", x.player(9, 9, i % 8, i / 8), i);
        }
        due("thirteenth", x.player(9, 9, 6, 5), NONE);
        due("look(0)", x.look(0), 12);
        x = three();
        x.act(2, 1, 3);
        due("kept", x.look(11), 1);
        due("refused", x.player(1, 1, 0, 0), NONE);
        due("still kept", x.look(11), 1);
        due("comes", x.player(1, 1, 1, 1), 3);
        due("forgotten", x.look(11), 0);
        int[] first = {1, 1, 1, 1, NONE, 0, NONE, 0};
        for (int what = 0; what < 8; what++) {
            due("of(3, " + what + ")", x.of(3, what), first[what]);
        }
    }

    private static void set() {
        HearsayOrchestra x = three();
        due("LOUD 0", x.set(0, 0, 0), false);
        due("LOUD 10", x.set(0, 0, 10), false);
        due("LOUD 1", x.set(0, 0, 1), true);
        due("of LOUD", x.of(0, 0), 1);
        due("LOUD 9", x.set(0, 1, 9), true);
        due("of LOUD", x.of(1, 0), 9);
        due("EAR -1", x.set(1, 0, -1), false);
        due("EAR 10", x.set(1, 0, 10), false);
        due("EAR 0", x.set(1, 0, 0), true);
        due("of EAR", x.of(0, 1), 0);
        due("EAR 9", x.set(1, 0, 9), true);
        due("of EAR", x.of(0, 1), 9);
        due("OFF -51", x.set(2, 0, -51), false);
        due("OFF 51", x.set(2, 0, 51), false);
        due("OFF -50", x.set(2, 0, -50), true);
        due("of OFF", x.of(0, 5), -50);
        due("OFF 50", x.set(2, 2, 50), true);
        due("of OFF", x.of(2, 5), 50);
        due("what 3", x.set(3, 0, 5), false);
        due("what -1", x.set(-1, 0, 5), false);
        due("who 3", x.set(0, 3, 5), false);
        due("who -1", x.set(0, -1, 5), false);
        due("who 12", x.set(0, 12, 5), false);
        x.act(2, 0, 5);
        due("refused", x.set(0, 0, 10), false);
        due("still kept", x.look(11), 1);
        due("told again the same", x.set(0, 0, 1), true);
        due("forgotten", x.look(11), 0);
    }

    private static void act() {
        HearsayOrchestra x = three();
        good(x, 3, "pillar 5 5;", 1);
        due("own seat", x.act(0, 0, 0), false);
        due("another's seat", x.act(0, 0, 2), false);
        due("seat 1", x.act(0, 0, 1), true);
        due("seat 0", x.act(0, 0, 0), true);
        due("pillar", x.act(0, 0, 45), false);
        due("seat -1", x.act(0, 0, -1), false);
        due("seat 48", x.act(0, 0, 48), false);
        due("seat 47", x.act(0, 0, 47), true);
        due("x", x.of(0, 2), 7);
        due("y", x.of(0, 3), 5);
        due("old seat", x.seat(0, 0, 0), NONE);
        due("new seat", x.seat(7, 5, 0), 0);
        due("in tune already", x.act(1, 0, 9), false);
        x.set(2, 0, -3);
        due("tuned", x.act(1, 0, 99), true);
        due("OFF", x.of(0, 5), 0);
        due("NOTE -1", x.act(2, 0, -1), false);
        due("NOTE 12", x.act(2, 0, 12), false);
        due("NOTE 11", x.act(2, 0, 11), true);
        due("the same", x.act(2, 0, 11), false);
        due("NOTE 0", x.act(2, 0, 0), true);
        due("NOTE", x.of(0, 4), 0);
        due("silent", x.act(3, 1, 0), false);
        due("hushed", x.act(3, 0, 77), true);
        due("NOTE", x.of(0, 4), NONE);
        due("what 4", x.act(4, 0, 1), false);
        due("what -1", x.act(-1, 0, 1), false);
        due("who 3", x.act(2, 3, 1), false);
        due("who -1", x.act(2, -1, 1), false);
        due("who of all whats", x.act(0, 5, 1) || x.act(1, 5, 1) || x.act(3, 5, 1), false);
        due("kept: tuned, 11, 0, hushed", x.look(11), 4);
        // AFTER goes with striking and hushing.
        x = three();
        tell(x, 0, "slips 0;");
        x.act(2, 0, 4);
        x.beats(1);
        due("AFTER", x.of(1, 6), 0);
        due("AFTER", x.of(2, 6), 0);
        due("strike", x.act(2, 1, 6), true);
        due("AFTER", x.of(1, 6), NONE);
        due("hush", x.act(3, 2, 6), true);
        due("AFTER", x.of(2, 6), NONE);
        due("by hand nothing is in the book", x.look(4), 4);
    }

    private static void beats() {
        HearsayOrchestra x = three();
        due("0", x.beats(0), NONE);
        due("-1", x.beats(-1), NONE);
        due("61", x.beats(61), NONE);
        due("min", x.beats(Integer.MIN_VALUE), NONE);
        due("max", x.beats(Integer.MAX_VALUE), NONE);
        due("BEAT", x.look(3), 0);
        due("60", x.beats(60), 0);
        due("BEAT", x.look(3), 60);
        due("no draws in silence", x.look(5), 0);
        due("no lines in silence", x.look(4), 0);
        for (int i = 0; i < 165; i++) {
            x.beats(60);
        }
        due("BEAT", x.look(3), 9960);
        due("40 more", x.beats(40), NONE);
        due("nothing is done", x.look(3), 9960);
        due("39 more", x.beats(39), 0);
        due("BEAT", x.look(3), 9999);
        due("one more", x.beats(1), NONE);
        due("in thought", x.goes(60, 0), 0);
    }

    /** Who follows whom, how far tunings bend, which notes slip, what the book has of it. */
    private static void aBeat() {
        HearsayOrchestra x = new HearsayOrchestra();
        x.player(5, 4, 0, 0);
        x.player(5, 4, 2, 0);
        x.player(5, 4, 1, 0);
        x.player(1, 0, 7, 5);
        tell(x, 0, "slips 0;");
        x.act(2, 0, 3);
        x.act(2, 1, 8);
        due("of two as loud the lesser number", x.of(2, 8), 0);
        due("100 - 120 is not above 0", x.of(3, 10), -20);
        due("he hears 100 - 100 of 1", x.of(3, 11), 0);
        due("0 is not above 0", x.of(3, 8), NONE);
        x.set(2, 0, 2);
        x.set(2, 1, -20);
        x.set(2, 2, -1);
        due("beat", x.beats(1), 0);
        due("all at once: 0 follows 1", x.of(0, 4), 8);
        due("all at once: 1 follows 0", x.of(1, 4), 3);
        due("2 follows 0", x.of(2, 4), 3);
        due("AFTER", x.of(0, 6), 1);
        due("AFTER", x.of(1, 6), 0);
        due("AFTER", x.of(2, 6), 0);
        due("AFTER", x.of(3, 6), NONE);
        due("OFF 2 to -20 by 4", x.of(0, 5), -2);
        due("OFF -20 to 2 by 4", x.of(1, 5), -16);
        due("OFF -1 to 2, not beyond", x.of(2, 5), 2);
        due("lines", x.look(4), 1);
        due("BEAT of it", x.book(0, 0), 0);
        due("came in", x.book(0, 1), 2);
        due("who", x.book(0, 2), 2);
        due("NOTE", x.book(0, 3), 3);
        due("no unison", x.look(2), 0);

        // Score: the last line counts, who has a line plays it though he hears another one, his OFF stays.
        x = three();
        tell(x, 0, "slips 1000; bends 50;");
        good(x, 1, "at 1 player 1 note 4; at 0 player 0 note 3; at 0 player 0 note 9; at 1 player 2 note 10;", 4);
        x.set(2, 0, 7);
        due("only 0 plays", x.beats(1), 0);
        due("the last line", x.of(0, 4), 9);
        due("OFF stays", x.of(0, 5), 7);
        due("came in by score", x.book(0, 1), 2);
        due("NOTE", x.book(0, 3), 9);
        due("BEAT 1", x.beats(1), 0);
        due("by score", x.of(1, 4), 4);
        due("AFTER", x.of(1, 6), NONE);
        due("OFF stays", x.of(1, 5), 0);
        due("0 heard nobody", x.of(0, 4), NONE);
        due("lines", x.look(4), 4);
        due("fell silent", x.book(1, 1), 1);
        due("BEAT", x.book(1, 0), 1);
        due("the NOTE he had", x.book(1, 3), 9);
        due("came in", x.book(2, 1), 2);
        due("who", x.book(3, 2), 2);
        due("BEAT 2: all three slip", x.beats(1), 3);
        due("0 hears 1 most", x.of(0, 6), 1);
        due("4 slips to 5", x.of(0, 4), 5);
        due("OFF 7 to 0", x.of(0, 5), 0);
        due("WRONG", x.of(0, 7), 1);
        due("1 hears 2", x.of(1, 4), 11);
        due("2 hears 1", x.of(2, 4), 5);
        int[][] lines = {{2, 0, 0, 5}, {2, 2, 0, 5}, {2, 0, 1, 11}, {2, 0, 2, 5}};
        for (int i = 0; i < 4; i++) {
            for (int what = 0; what < 4; what++) {
                due("book(" + (i + 4) + ", " + what + ")", x.book(i + 4, what), lines[i][what]);
            }
        }
        due("lines", x.look(4), 8);
    }

    /** The stage comes ahead of the beat, and all is asked as it was behind it. */
    private static void aStage() {
        HearsayOrchestra x = three();
        good(x, 3, "pillar 4 4;", 1);
        tell(x, 0, "slips 0;");
        good(x, 2, "at 0 seat 0 2 0; at 0 seat 1 3 0; at 0 seat 0 2 0; at 0 seat 2 4 4; at 0 loud 0 1;"
                + "at 0 tune 1; at 0 hush 2; at 1 loud 0 8;", 8);
        x.set(2, 1, 30);
        x.act(2, 2, 5);
        x.act(2, 0, 6);
        due("hears 2 now", x.of(1, 12), 40);
        due("beat", x.beats(1), 0);
        due("0 sits where 1 sat", x.seat(2, 0, 0), 0);
        due("1 sits there", x.seat(3, 0, 0), 1);
        due("not on a pillar", x.of(2, 2), 2);
        due("LOUD", x.of(0, 0), 1);
        due("tuned", x.of(1, 5), 0);
        due("1 hears 0: 20 - 10", x.of(1, 4), 6);
        due("2 hears 0: 20 - 20 no more", x.of(2, 4), NONE);
        due("0 hears nobody: 2 was hushed", x.of(0, 4), NONE);
        due("lines", x.look(4), 2);
        due("0 fell silent", x.book(0, 2), 0);
        due("1 came in", x.book(1, 1), 2);
        due("BEAT 1", x.beats(1), 0);
        due("LOUD", x.of(0, 0), 8);
        due("undo", x.undo(), true);
        due("LOUD", x.of(0, 0), 1);
        due("undo", x.undo(), true);
        due("seat", x.of(0, 2), 0);
        due("LOUD", x.of(0, 0), 9);
        due("OFF", x.of(1, 5), 30);
        due("NOTE", x.of(2, 4), 5);
        due("lines", x.look(4), 0);

        // A wrong that comes of this beat does not count in it, nor does a note or a tuning.
        x = new HearsayOrchestra();
        x.player(9, 0, 0, 0);
        x.player(9, 0, 1, 0);
        x.player(9, 0, 2, 0);
        tell(x, 0, "slips 1000 when wrong = 0 and sounding = 1 and beat = 0; slips 0; bends off - 1;");
        x.set(2, 0, 9);
        x.act(2, 0, 0);
        due("both slip", x.beats(1), 2);
        due("OFF 0 to 9 by 8", x.of(1, 5), 8);
        due("OFF 0 to 9 by 8", x.of(2, 5), 8);
        due("none slips", x.beats(1), 0);
        due("bends -1 is held to 0", x.of(1, 5), 8);
        due("a draw each", x.look(5), 1664525 * 1013904223 + 1013904223);
        due("unison of 1 and 2", x.look(2), 2);
    }

    private static void unisons() {
        HearsayOrchestra x = new HearsayOrchestra();
        x.player(9, 0, 0, 0);
        good(x, 1, "at 0 player 0 note 5; at 1 player 0 note 6;", 2);
        x.beats(1);
        due("one alone is none", x.look(2), 0);
        x.player(9, 0, 1, 0);
        tell(x, 0, "slips 1000;");
        due("slipped", x.beats(1), 1);
        due("5 slips to 6, 6 by score", x.look(2), 1);
        due("lines", x.look(4), 4);
        int[] line = {1, 3, NONE, 6};
        for (int what = 0; what < 4; what++) {
            due("book(3, " + what + ")", x.book(3, what), line[what]);
        }
        due("slipped", x.book(1, 1), 0);
        due("ahead of came in", x.book(2, 1), 2);
        due("the NOTE behind slipping", x.book(2, 3), 6);
        due("undo", x.undo(), true);
        due("UNISONS", x.look(2), 0);
        due("lines", x.look(4), 1);
    }

    private static void feed() {
        HearsayOrchestra x = new HearsayOrchestra();
        for (int i = 1; i <= 20; i++) {
            due("feed", x.feed(0x20202020, 0x20202020, 0x20202020, 0x20202020, 0x20202020), 20 * i);
        }
        due("more than 400", x.feed(1, 2, 3, 4, 5), NONE);
        due("end(400)", x.end(400), true);
        due("end(381)", x.end(381), true);
        due("401", x.feed(1, 2, 3, 4, 5), NONE);
        due("nothing comes", x.end(382), false);
        due("end(380)", x.end(380), true);
        due("400", x.feed(0x20202020, 0x20202020, 0x20202020, 0x20202020, 0x20202020), 400);
        due("text", x.text(0), 0);
        due("feed", x.feed(0x20202020, 0, 0, 0, 0), 20);
        due("end(19)", x.end(19), true);
        due("feed", x.feed(0, 0, 0, 0, 0), 39);
        for (int i = 0; i < 18; i++) {
            x.feed(0, 0, 0, 0, 0);
        }
        due("399 and 20", x.feed(0, 0, 0, 0, 0), NONE);
        due("end(399)", x.end(399), true);
        due("text", x.text(0), NONE);
        due("0 is no token", x.fault(0), 1);
        due("behind four blanks", x.fault(1), 4);
        // The highest byte first: "hear" "s 1;" and numbers below 0 for bytes above 127.
        x.feed(0x68656172, 0x7320313b, 0xff202020, 0x20202020, 0x20202020);
        due("text", x.text(0), NONE);
        due("place", x.fault(1), 8);
        x.feed(0x68656172, 0x7320313b, 0x0a202020, 0x68656172, 0x7320323b);
        due("text", x.text(0), 2);
        // feed and end leave what can be undone.
        x.player(1, 1, 1, 1);
        x.act(2, 0, 1);
        x.feed(0, 0, 0, 0, 0);
        x.end(3);
        due("kept", x.look(11), 1);
    }

    private static void end() {
        HearsayOrchestra x = new HearsayOrchestra();
        due("end(0)", x.end(0), true);
        due("end(1)", x.end(1), false);
        x.feed(0, 0, 0, 0, 0);
        due("end(-1)", x.end(-1), false);
        due("end(21)", x.end(21), false);
        due("end(min)", x.end(Integer.MIN_VALUE), false);
        due("end(20)", x.end(20), true);
        due("end(7)", x.end(7), true);
        due("end(8)", x.end(8), false);
        due("behind 7", x.feed(0, 0, 0, 0, 0), 27);
        due("end(0)", x.end(0), true);
        due("text", x.text(1), 0);
    }

    private static void text() {
        HearsayOrchestra x = three();
        good(x, 0, "", 0);
        good(x, 0, "hears 1;slips loud*ear/3+far-pillars;bends off when note=wrong;", 3);
        due("look(6)", x.look(6), 3);
        good(x, 1, "at 0 player 2 note 11;\nat 999player 0note 0;", 2);
        due("look(7)", x.look(7), 2);
        good(x, 2, "at 999 seat 0 7 5; at 0 loud 1 1; at 1 loud 1 9; at 0 tune 2; at 0 hush 0;", 5);
        due("look(8)", x.look(8), 5);
        good(x, 3, "pillar 7 5; pillar 7 5; pillar 1 0;", 3);
        due("look(9)", x.look(9), 3);
        due("look(10)", x.look(10), 2);
        good(x, 3, "pillar 4 4;", 1);
        due("all others are gone", x.seat(7, 5, 1), 0);
        due("look(10)", x.look(10), 1);
        x.feed(0x78202020, 0, 0, 0, 0);
        due("no text 4", x.text(4), NONE);
        due("fault", x.fault(0), 0);
        due("place", x.fault(1), NONE);
        due("the tape is empty", x.end(1), false);
        x.feed(0x78202020, 0, 0, 0, 0);
        due("no text -1", x.text(-1), NONE);
        due("the tape is empty", x.end(1), false);
        bad(x, 3, "x", 1, 0);
        due("the tape is empty", x.end(1), false);
        due("it stays as it was", x.look(9), 1);
        due("it stays as it was", x.seat(4, 4, 1), 1);
        bad(x, 0, "hears 1; hears", 1, 14);
        due("it stays as it was", x.look(6), 3);
        bad(x, 1, "at 0 player 0 note 1; at", 1, 24);
        due("it stays as it was", x.look(7), 2);
        bad(x, 2, "at 0 tune 0; at", 1, 15);
        due("it stays as it was", x.look(8), 5);
        // What is told here forgets what can be undone, but for the law and what has a fault.
        for (int k = 0; k < 4; k++) {
            x.act(2, 0, k + 1);
            due("kept", x.look(11) > 0, true);
            tell(x, k, "x");
            due("still kept", x.look(11) > 0, true);
            tell(x, k, "");
            due("forgotten", x.look(11) > 0, k == 0);
        }
        x.act(2, 0, 9);
        x.text(7);
        due("still kept", x.look(11), 1);
    }

    private static void fault() {
        HearsayOrchestra x = three();
        due("fault(2)", x.fault(2), NONE);
        due("fault(-1)", x.fault(-1), NONE);
        bad(x, 0, "hears", 1, 5);
        bad(x, 0, "hears  ", 1, 7);
        due("fault(2)", x.fault(2), NONE);
        good(x, 1, "", 0);
        bad(x, 0, "Hears 1;", 1, 0);
        bad(x, 0, "hear 1;", 1, 0);
        bad(x, 0, "hearss 1;", 1, 0);
        bad(x, 0, "at 1;", 1, 0);
        bad(x, 0, ";", 1, 0);
        bad(x, 0, "hears 1;;", 1, 8);
        bad(x, 0, "hears -1;", 1, 6);
        bad(x, 0, "hears (1);", 1, 6);
        bad(x, 0, "hears 1 2;", 1, 8);
        bad(x, 0, "hears 1+;", 1, 8);
        bad(x, 0, "hears 1*;", 1, 8);
        bad(x, 0, "hears 1/loud;", 1, 8);
        bad(x, 0, "hears 1/00;", 2, 8);
        bad(x, 0, "hears 1/0", 2, 8);
        good(x, 0, "hears 1/0001*2/9999;", 1);
        bad(x, 0, "hears 00001;", 1, 6);
        bad(x, 0, "hears 1\t;", 1, 7);
        bad(x, 0, "hears 1\r;", 1, 7);
        bad(x, 0, "hears 1 when 1;", 1, 14);
        bad(x, 0, "hears 1 when 1=1=1;", 1, 16);
        bad(x, 0, "hears 1 when 1<=1;", 1, 15);
        bad(x, 0, "hears 1 when (1)=1;", 1, 15);
        bad(x, 0, "hears 1 when (1=1;", 1, 17);
        bad(x, 0, "hears 1 when 1=1);", 1, 16);
        bad(x, 0, "hears 1 when 1=1 and;", 1, 20);
        bad(x, 0, "hears 1 when 1=1 or or 1=1;", 1, 20);
        bad(x, 0, "hears 1 when 1=1 not 1=1;", 1, 17);
        bad(x, 0, "hears 1 when not;", 1, 16);
        bad(x, 0, "hears 1 when 1=1 when 1=1;", 1, 17);
        bad(x, 0, "hears player;", 1, 6);
        bad(x, 0, "hears 1 when 1=1", 1, 16);
        String eight = "hears 1 when " + times(8, "(") + "1=1" + times(8, ")");
        good(x, 0, eight + ";", 1);
        good(x, 0, eight + " and " + times(4, "not(") + "1=1" + times(4, ")") + ";", 1);
        good(x, 0, "hears 1 when " + times(9, "not 1=1 and ") + "(1=1);", 1);
        bad(x, 0, "hears 1 when " + times(4, "not(") + "not 1=1" + times(4, ")") + ";", 3, 29);
        bad(x, 0, "hears 1 when (1=1) and " + times(8, "(") + "not", 3, 31);
        good(x, 0, times(16, "bends 1;"), 16);
        bad(x, 0, times(16, "bends 1;") + " hears", 3, 129);
        bad(x, 0, times(16, "bends 1;") + " 1", 1, 129);
        bad(x, 0, times(15, "bends 1;") + "bends 1/0; bends 1;", 2, 128);

        bad(x, 1, "at 1000 player 0 note 1;", 2, 3);
        bad(x, 1, "at 12345 player 0 note 1;", 1, 3);
        bad(x, 1, "at player 0 note 1;", 1, 3);
        bad(x, 1, "at 1 player 3 note 1;", 2, 12);
        bad(x, 1, "at 1 player 2 note 12;", 2, 19);
        bad(x, 1, "at 1 player 2 note 11", 1, 21);
        bad(x, 1, "at 1 player 2 note 11 1;", 1, 22);
        bad(x, 1, "at 1 seat 2 1 1;", 1, 5);
        bad(x, 1, times(16, "at 1 player 2 note 1;") + "at", 3, 336);
        good(x, 1, times(16, "at 1 player 2 note 1;"), 16);

        bad(x, 2, "at 1000 tune 0;", 2, 3);
        bad(x, 2, "at 1 seat 3 1 1;", 2, 10);
        bad(x, 2, "at 1 seat 0 8 1;", 2, 12);
        bad(x, 2, "at 1 seat 0 7 6;", 2, 14);
        bad(x, 2, "at 1 seat 0 7;", 1, 13);
        good(x, 2, "at 1 seat 0 2 0;", 1);
        bad(x, 2, "at 1 loud 0 0;", 2, 12);
        bad(x, 2, "at 1 loud 0 10;", 2, 12);
        bad(x, 2, "at 1 loud 0;", 1, 11);
        bad(x, 2, "at 1 tune 0 1;", 1, 12);
        bad(x, 2, "at 1 hush 3;", 2, 10);
        bad(x, 2, "at 1 player 0 note 1;", 1, 5);
        bad(x, 2, times(16, "at 1 hush 2;") + "at", 3, 192);

        bad(x, 3, "pillar 8 0;", 2, 7);
        bad(x, 3, "pillar 0 6;", 2, 9);
        bad(x, 3, "pillar 2 2;", 2, 9);
        bad(x, 3, "pillar 1 2; pillar 0 0", 2, 21);
        bad(x, 3, "pillars 1 2;", 1, 0);
        bad(x, 3, "pillar 12;", 2, 7);
        bad(x, 3, "pillar 1 00000;", 1, 9);
        good(x, 3, "pillar 0001 0002;", 1);
        bad(x, 3, times(17, "pillar 1 1;"), 3, 176);
        good(x, 3, times(16, "pillar 1 1;"), 16);
        due("one", x.look(10), 1);

        HearsayOrchestra nobody = new HearsayOrchestra();
        bad(nobody, 1, "at 0 player 0 note 1;", 2, 12);
        bad(nobody, 2, "at 0 hush 0;", 2, 10);
    }

    /** What stood on the tape behind its end, or in an earlier text, does not count. */
    private static void longTexts() {
        HearsayOrchestra x = three();
        feed(x, "at 0 player 0 note 12");
        x.end(20);
        due("text", x.text(1), NONE);
        due("12 is cut to 1", x.fault(0), 1);
        due("the end", x.fault(1), 20);
        feed(x, "hears earx");
        x.end(9);
        due("text", x.text(0), NONE);
        due("earx is cut to ear", x.fault(1), 9);
        bad(x, 0, times(400, "("), 1, 0);
        bad(x, 0, times(80, "hears"), 1, 0);
        bad(x, 0, times(40, "1234567890"), 1, 0);
        bad(x, 0, "hears 1" + times(196, "+1") + " ", 1, 400);
        good(x, 0, times(400, " "), 0);
        for (int i = 0; i < 5; i++) {
            good(x, 0, "hears 1" + times(180, "+1") + "-" + i + " when 1<2;slips " + i + ";", 2);
            due("long", x.of(0, 11), 181 - i);
            due("long", x.of(0, 31), i);
        }
        good(x, 0, "slips 1 when 1=1" + times(47, " and 1=1") + ";", 1);
        due("long", x.of(0, 31), 1);
        good(x, 0, "slips 1 when 1=2" + times(53, " or 1=2") + " or 1=1;", 1);
        due("long", x.of(0, 31), 1);
    }

    private static void of() {
        HearsayOrchestra x = three();
        int none = NONE - 9999;
        int[] whats = {-1, 9, 10, 13, 21, 22, 29, 30, 33, 42, 49, 50, 53, 62, 69, 70, 90, Integer.MIN_VALUE, Integer.MAX_VALUE};
        for (int what : whats) {
            due("of(0, " + what + ")", x.of(0, what), none);
        }
        due("of(-1, 0)", x.of(-1, 0), none);
        due("of(3, 0)", x.of(3, 0), none);
        due("of(12, 0)", x.of(12, 0), none);
        int[] second = {5, 3, 2, 0, NONE, 0, NONE, 0, NONE};
        for (int what = 0; what < 9; what++) {
            due("of(1, " + what + ")", x.of(1, what), second[what]);
        }
        due("hears", x.of(1, 12), 60 - 20);
        due("slips", x.of(1, 32), 200 - 60);
        due("slips", x.of(2, 30), 20);
        due("bends", x.of(2, 51), 9);
        // The rectangle: sides count, what is beyond does not.
        good(x, 3, "pillar 1 0; pillar 1 1; pillar 1 2; pillar 1 3; pillar 3 1; pillar 0 2; pillar 2 1;", 7);
        due("from 0 0 to 2 2: 5", x.of(2, 10), 180 - 40 - 150);
        due("from 2 2 to 0 0: 5", x.of(0, 12), 60 - 40 - 150);
        due("from 0 0 to 2 0: 1", x.of(1, 10), 180 - 20 - 30);
        due("from 2 0 to 2 2: 1", x.of(1, 12), 60 - 20 - 30);
        good(x, 3, "", 0);
        x.act(0, 0, 40);
        x.act(0, 1, 31);
        due("from 0 5 to 7 3", x.of(0, 11), 100 - 90);
        // The law's words.
        x = three();
        x.set(2, 0, -50);
        x.set(2, 1, 50);
        x.act(2, 0, 7);
        good(x, 3, "pillar 1 0;", 1);
        x.beats(1);
        x.act(2, 0, 7);
        String[] words = {"loud", "ear", "far", "pillars", "off", "note", "wrong", "sounding", "beat"};
        int[] values = {9, 3, 2, 1, 97, 7, 0, 3, 1};
        for (int i = 0; i < words.length; i++) {
            good(x, 0, "hears " + words[i] + ";", 1);
            due(words[i], x.of(1, 10), values[i]);
        }
        good(x, 0, "hears note; slips 0;", 2);
        x.act(3, 0, 0);
        due("a silent one's note", x.of(1, 10), -1);
        good(x, 0, "hears 10 - 3 - 2 * 3 / 4 + 7 / 2 * 2;", 1);
        due("from the left", x.of(1, 10), 10 - 3 - 1 + 6);
        good(x, 0, "hears 0 - 7 + note / 2;", 1);
        due("note -1 / 2 is 0", x.of(1, 10), -7);
        good(x, 0, "hears note * 7 / 2;", 1);
        due("towards 0", x.of(1, 10), -3);
        good(x, 0, "hears 9999*9999*9999/9999;", 1);
        due("ints wrap", x.of(1, 10), Math.max(-999, Math.min(999, 9999 * 9999 * 9999 / 9999)));
        good(x, 0, "hears 9999 - 9999 * 9999; slips 9999; bends 9999;", 3);
        due("hears held", x.of(1, 10), -999);
        due("slips held", x.of(1, 30), 1000);
        due("bends held", x.of(1, 50), 50);
        good(x, 0, "hears 9999; slips 0 - 1; bends 0 - 1;", 3);
        due("hears held", x.of(1, 10), 999);
        due("slips held", x.of(1, 30), 0);
        due("bends held", x.of(1, 50), 0);
        conditions(x);
        // The law that is not told is held, too.
        x = new HearsayOrchestra();
        x.player(1, 9, 0, 0);
        x.player(1, 0, 7, 5);
        StringBuilder most = new StringBuilder();
        for (int i = 0; i < 16; i++) {
            most.append("pillar ").append(1 + i % 6).append(' ').append(i / 6).append(';');
        }
        good(x, 3, most.toString(), 16);
        due("20 - 120 - 480", x.of(0, 11), -580);
        due("slips", x.of(0, 31), 20);
        due("slips", x.of(1, 30), 200);
    }

    private static void wrongs() {
        HearsayOrchestra x = new HearsayOrchestra();
        x.player(9, 0, 0, 0);
        x.player(9, 0, 1, 0);
        x.act(2, 0, 0);
        tell(x, 0, "slips 1000;");
        x.beats(3);
        good(x, 0, "hears 10 * wrong + 1;", 1);
        due("WRONG of 0, who followed once", x.of(0, 7), 1);
        due("WRONG of 1, who followed twice", x.of(1, 7), 2);
        due("his who listens", x.of(0, 11), 11);
        due("his who listens", x.of(1, 10), 21);
    }

    private static void conditions(HearsayOrchestra x) {
        String[] so = {"1<2", "2>1", "2=2", "not 1=2", "not not 1=1", "(1=1)", "1=2 or 1=1", "1=1 or 1=2 and 1=2",
            "(1=1 or 1=2) and 1=1", "not 1=2 and 1=1", "not (1=1 and 1=2)", "1+1=2", "1=3-2", "1=1 and 2=2 and 3=3",
            "1=2 or 2=3 or 3=3", "1=1 and 1=2 or 1=1", "not 1=2 or 1=2", "0-1<0"};
        String[] not = {"2<1", "1<1", "1>2", "1>1", "1=2", "not 1=1", "not not 1=2", "(1=2)", "1=2 or 2=1",
            "(1=1 or 1=2) and 1=2", "not (1=2 or 1=1)", "not 1=1 and 1=2", "1=1 and 2=2 and 3=4", "1=2 and 1=1 or 1=2",
            "not 1=1 or 1=2"};
        for (String b : so) {
            good(x, 0, "slips 1 when " + b + "; slips 2;", 2);
            due(b, x.of(1, 30), 1);
        }
        for (String b : not) {
            good(x, 0, "slips 1 when " + b + "; slips 2;", 2);
            due(b, x.of(1, 30), 2);
        }
        good(x, 0, "hears 5; slips 1 when 1=2; bends 6;", 3);
        due("none is so: as if untold", x.of(1, 30), 140);
        due("its own word", x.of(1, 50), 6);
        good(x, 0, "slips 1; slips 2;", 2);
        due("the first", x.of(1, 30), 1);
    }

    private static void seat() {
        HearsayOrchestra x = three();
        tell(x, 3, "pillar 7 5;");
        due("who", x.seat(2, 2, 0), 2);
        due("nobody", x.seat(7, 5, 0), NONE);
        due("pillar", x.seat(7, 5, 1), 1);
        due("none", x.seat(5, 5, 1), 0);
        int[][] none = {{-1, 0, 0}, {8, 0, 0}, {0, -1, 0}, {0, 6, 0}, {0, 0, 2}, {0, 0, -1}, {8, -1, 1}};
        for (int[] n : none) {
            due("none such", x.seat(n[0], n[1], n[2]), -2);
        }
    }

    private static void book() {
        HearsayOrchestra x = new HearsayOrchestra();
        x.player(9, 9, 0, 0);
        x.player(9, 9, 1, 0);
        tell(x, 0, "slips 0;");
        due("none yet", x.book(0, 0), -2);
        x.act(2, 0, 4);
        x.beats(1);
        due("0 fell silent, 1 came in", x.look(4), 2);
        due("what 4", x.book(0, 4), -2);
        due("what -1", x.book(0, -1), -2);
        due("line -1", x.book(-1, 0), -2);
        due("line 2", x.book(2, 0), -2);
        due("line max", x.book(Integer.MAX_VALUE, 3), -2);
        x.beats(60);
        due("lines", x.look(4), 122);
        x.beats(13);
        due("lines", x.look(4), 148);
        x.beats(2);
        due("150 at most", x.look(4), 150);
        due("BEAT of the last", x.book(149, 0), 74);
        due("none such", x.book(150, 0), -2);
        due("undo", x.undo(), true);
        due("it was full then, too", x.look(4), 150);
        due("undo", x.undo(), true);
        due("lines", x.look(4), 148);
        tell(x, 0, "hears 0;");
        x.beats(1);
        due("another line", x.look(4), 149);
        due("fell silent", x.book(148, 1), 1);
        due("BEAT", x.book(148, 0), 74);
    }

    private static void goes() {
        HearsayOrchestra x = three();
        int[][] none = {{0, 0}, {61, 0}, {-1, 0}, {1, 4}, {1, -1}, {Integer.MAX_VALUE, 0}};
        for (int[] n : none) {
            due("can't be", x.goes(n[0], n[1]), NONE);
        }
        due("silence", x.goes(60, 0), 0);
        x.act(2, 0, 11);
        x.set(2, 0, -50);
        tell(x, 0, "slips 499;");
        due("two sound", x.goes(1, 0), 2);
        due("unison", x.goes(1, 1), 1);
        due("no wrong", x.goes(1, 2), 0);
        due("OFF 50 + 3 + 9", x.goes(1, 3), 62);
        due("all sound", x.goes(2, 0), 3);
        due("unisons", x.goes(60, 1), 60);
        tell(x, 0, "slips 500;");
        due("wrong", x.goes(1, 2), 2);
        due("wrong", x.goes(3, 2), 2 + 3 + 3);
        due("nothing of it stays", x.look(3) + x.look(2) + x.look(4) + x.look(5), 0);
        due("nothing of it stays", x.of(1, 4), NONE);
        due("nothing of it stays", x.look(1), 1);
        due("nothing to undo of it", x.look(11), 0);
        x.beats(1);
        due("UNISONS from before, too", x.goes(1, 1) >= x.look(2), true);
        // Score and stage count in thought, too.
        x = three();
        good(x, 1, "at 2 player 1 note 3; at 3 player 1 note 3;", 2);
        good(x, 2, "at 3 seat 0 7 5; at 3 loud 1 5; at 4 hush 1;", 3);
        tell(x, 0, "slips 0;");
        due("BEAT 0 and 1", x.goes(2, 0), 0);
        due("BEAT 2", x.goes(3, 0), 1);
        due("BEAT 3: 0 is too far", x.goes(4, 0), 2);
        due("seat stays", x.of(0, 2), 0);
    }

    private static void all() {
        HearsayOrchestra x = new HearsayOrchestra();
        due("nobody there", x.all(), NONE);
        x.player(9, 9, 0, 0);
        due("not within 60", x.all(), NONE);
        good(x, 1, "at 59 player 0 note 0;", 1);
        due("behind 60", x.all(), 60);
        good(x, 1, "at 60 player 0 note 0;", 1);
        due("behind 61", x.all(), NONE);
        x.act(2, 0, 1);
        due("now", x.all(), 0);
        x.player(9, 9, 1, 0);
        due("they speak by turns", x.all(), NONE);
        x.player(9, 9, 2, 0);
        due("0, then 1 and 2, then all", x.all(), 2);
        due("nothing of it stays", x.look(3) + x.look(4) + x.look(2), 0);
        due("nothing of it stays", x.look(1), 1);
    }

    private static void round() {
        HearsayOrchestra x = new HearsayOrchestra();
        due("corner to corner", x.round(0, 47, 0), 12);
        due("all seats", x.round(0, 47, 1), 48);
        due("from the other corner", x.round(47, 0, 0), 12);
        due("a row's end is not beside the next row", x.round(7, 8, 0), 8);
        due("in the midst", x.round(27, 28, 1), 5);
        int[][] none = {{-1, 0, 0}, {48, 0, 0}, {0, -1, 0}, {0, 48, 0}, {0, 1, 2}, {0, 1, -1}, {0, Integer.MIN_VALUE, 0}};
        for (int[] n : none) {
            due("can't be", x.round(n[0], n[1], n[2]), NONE);
        }
        x.player(1, 1, 1, 1);
        due("players are no pillars", x.round(0, 9, 0), 2);
        good(x, 3, "pillar 1 0; pillar 0 1;", 2);
        due("shut in", x.round(0, 9, 0), NONE);
        due("shut in", x.round(0, 9, 1), NONE);
        due("shut in", x.round(9, 0, 0), NONE);
        due("itself", x.round(0, 0, 1), 1);
        due("on a pillar", x.round(1, 0, 0), NONE);
        due("on a pillar", x.round(9, 8, 1), NONE);
        due("all but 3", x.round(47, 9, 1), 45);
        good(x, 3, "pillar 3 0; pillar 3 1; pillar 3 2; pillar 3 3; pillar 3 4;", 5);
        due("round them", x.round(2, 4, 0), 12);
        due("18 this side, one between, 18 beyond", x.round(2, 4, 1), 37);
        due("below them", x.round(2, 44, 0), 7);
    }

    private static void cost() {
        HearsayOrchestra x = new HearsayOrchestra();
        int[][] none = {{0, 0, 1}, {-1, 0, 1}, {0, -1, 1}, {6, 0, 1}, {0, 6, 1}, {0, 1, -1}, {0, 1, 10}};
        for (int[] n : none) {
            due("can't be", x.cost(n[0], n[1], n[2]), false);
        }
        due("none told", x.desks(6, 0), 0);
        due("told", x.cost(5, 4, 9), true);
        due("told", x.desks(6, 0), 9);
        due("told the other way", x.cost(4, 5, 2), true);
        due("the latest", x.desks(6, 0), 2);
        due("told 0", x.cost(4, 5, 0), true);
        due("told 0", x.desks(6, 0), 0);
        x.player(1, 1, 1, 1);
        x.act(2, 0, 1);
        x.cost(0, 1, 1);
        due("told for thought does not forget", x.look(11), 1);
        x.undo();
        due("and is not undone", x.desks(2, 0), 1);
    }

    private static void desks() {
        HearsayOrchestra x = new HearsayOrchestra();
        int[][] none = {{0, 0}, {7, 0}, {-1, 1}, {3, 2}, {3, -1}};
        for (int[] n : none) {
            due("can't be", x.desks(n[0], n[1]), NONE);
        }
        x.cost(0, 1, 5);
        due("two", x.desks(2, 0), 5);
        due("01", x.desks(2, 1), 1);
        x.cost(0, 2, 5);
        due("0 in the midst", x.desks(3, 0), 10);
        due("102", x.desks(3, 1), 102);
        x.cost(0, 3, 1);
        due("1 0 2 3: 5 + 5 + 2", x.desks(4, 0), 12);
        due("1 0 2 3 is less than 3 1 0 2", x.desks(4, 1), 1023);
        x.cost(3, 4, 9);
        x.cost(4, 5, 9);
        x.cost(5, 0, 9);
        due("1 2 0 5 4 3: 10 + 5 + 27 + 3", x.desks(6, 0), 45);
        due("it is the least", x.desks(6, 1), 120543);
    }

    private static void chord() {
        HearsayOrchestra x = new HearsayOrchestra();
        int[][] none = {{-1, 0}, {4096, 0}, {1, -1}, {1, 7}, {Integer.MIN_VALUE, 3}};
        for (int[] n : none) {
            due("can't be", x.chord(n[0], n[1]), NONE);
        }
        due("one note", x.chord(2048, 0), 1);
        due("all", x.chord(4095, 0), 4095);
        due("C E G comes down to C Eb G", x.chord(1 | 16 | 128, 0), 1 | 8 | 128);
        due("C Eb G stays", x.chord(1 | 8 | 128, 0), 1 | 8 | 128);
        due("half round", x.chord(2 | 128, 0), 65);
        due("round", x.chord(2048 | 1, 0), 3);
        for (int c = 1; c < 6; c++) {
            due("all: 12 couples", x.chord(4095, c), 12);
        }
        due("all: 6 couples", x.chord(4095, 6), 6);
        due("11 and 0", x.chord(2049, 1), 1);
        due("7 is 5", x.chord(1 | 128, 5), 1);
        due("none", x.chord(0, 6), 0);
        due("by thirds", x.chord(1 | 8 | 64 | 512, 3), 4);
        due("by thirds", x.chord(1 | 8 | 64 | 512, 6), 2);
    }

    private static void note() {
        HearsayOrchestra x = new HearsayOrchestra();
        due("none is", x.note(NONE), 0);
        due("-2", x.note(-2), NONE);
        due("12", x.note(12), NONE);
        for (int i = 0; i < 12; i++) {
            due("note", x.note(11 - i), i + 1);
            due("told already", x.note(11 - i), NONE);
        }
        due("thirteenth", x.note(0), NONE);
        due("none is then", x.note(NONE), 0);
        due("again", x.note(11), 1);
        due("i-th", x.series(0, 0, 0), 11);
    }

    private static void series() {
        HearsayOrchestra x = new HearsayOrchestra();
        int[] row = {3, 11, 0, 6};
        for (int v : row) {
            x.note(v);
        }
        int[][] ways = {{3, 11, 0, 6}, {3, 7, 6, 0}, {6, 0, 11, 3}, {0, 6, 7, 3}};
        for (int way = 0; way < 4; way++) {
            for (int t = 0; t < 12; t++) {
                for (int i = 0; i < 4; i++) {
                    due("series", x.series(way, t, i), (ways[way][i] + t) % 12);
                }
            }
            due("steps 8, 1, 6 or 4, 11, 6", x.series(way, 0, NONE), 3);
            due("none such", x.series(way, 0, 4), NONE);
        }
        x.note(5);
        due("11 is 8, 1, 6, 11", x.series(0, 5, NONE), 4);
        x.note(1);
        due("8 again", x.series(0, 5, NONE), 4);
        int[][] none = {{-1, 0, 0}, {4, 0, 0}, {0, -1, 0}, {0, 12, 0}, {0, 0, -2}, {0, 0, 6}, {4, 0, NONE}, {0, 12, NONE}};
        for (int[] n : none) {
            due("can't be", x.series(n[0], n[1], n[2]), NONE);
        }
        x.note(NONE);
        x.note(7);
        due("one note has no steps", x.series(3, 11, NONE), 0);
        due("one note", x.series(3, 11, 0), 6);
    }

    private static void tune() {
        HearsayOrchestra x = new HearsayOrchestra();
        due("-2", x.tune(-2), NONE);
        due("25", x.tune(25), NONE);
        for (int i = 1; i <= 12; i++) {
            due("tune", x.tune(24), i);
        }
        due("thirteenth", x.tune(0), NONE);
        due("twelve are", x.twice(0), 11);
        due("none is then", x.tune(NONE), 0);
        due("again", x.tune(0), 1);
    }

    private static void canon() {
        HearsayOrchestra x = new HearsayOrchestra();
        int[][] none = {{0, 0, 0}, {12, 0, 0}, {1, 13, 0}, {1, -13, 0}, {1, 0, 3}, {1, 0, -1}, {1, 13, 2}, {-5, 0, 1}};
        for (int[] n : none) {
            due("can't be", x.canon(n[0], n[1], n[2]), NONE);
        }
        x.tune(0);
        due("none together", x.canon(1, 0, 0), 0);
        due("none together", x.canon(1, 0, 1), 0);
        due("none together", x.canon(1, 0, 2), NONE);
        x.tune(1);
        due("1 apart", x.canon(1, 0, 1), 0);
        due("most is 0: the least d", x.canon(99, 0, 2), 1);
        due("1 against 0 + 1", x.canon(1, 1, 1), 1);
        due("1 against 0 - 12: 13", x.canon(1, -12, 1), 0);
        due("1 against 0 - 2: 3", x.canon(1, -2, 1), 1);
        x.tune(NONE);
        int[] apart = {1, 0, 0, 1, 1, 0, 0, 1, 1, 1, 0, 0, 1, 0, 0, 1, 1, 0, 0, 1, 1, 1, 0, 0, 1};
        for (int v = 0; v < 25; v++) {
            x.tune(NONE);
            x.tune(0);
            x.tune(v);
            due("0 and " + v, x.canon(1, 0, 1), apart[v]);
            x.tune(NONE);
            x.tune(v);
            x.tune(0);
            due(v + " and 0", x.canon(1, 0, 1), apart[v]);
        }
        x.tune(NONE);
        int[] notes = {0, 1, 2, 4, 5, 6};
        for (int v : notes) {
            x.tune(v);
        }
        due("together", x.canon(2, 0, 0), 4);
        due("together", x.canon(11, 0, 0), 0);
        due("0-4, 1-5, 2-6", x.canon(3, 0, 1), 3);
        due("2-5, 1-4 by 2", x.canon(2, 0, 1), 2);
        due("by 3", x.canon(0, 0, 2), 3);
        due("none by 4: 0-5, 1-6", x.canon(4, 0, 1), 0);
        x.tune(NONE);
        int[] alike = {0, 1, 4, 5};
        for (int v : alike) {
            x.tune(v);
        }
        due("1-4", x.canon(1, 0, 1), 1);
        due("0-4, 1-5", x.canon(2, 0, 1), 2);
        due("5 higher: 2 by 1, none by 2, 1 by 3", x.canon(0, 5, 2), 1);
        x.tune(NONE);
        x.tune(0);
        x.tune(3);
        x.tune(4);
        due("0-3", x.canon(1, 0, 1), 1);
        due("0-4", x.canon(2, 0, 1), 1);
        due("of several the least", x.canon(0, 0, 2), 1);
        x.tune(NONE);
        for (int v : notes) {
            x.tune(v);
        }
        due("1 higher: by 1", x.canon(0, 1, 2), 1);
    }

    private static void twice() {
        HearsayOrchestra x = new HearsayOrchestra();
        due("what 2", x.twice(2), NONE);
        due("what -1", x.twice(-1), NONE);
        int[] notes = {5, 1, 2, 9, 1, 2, 7, 2, 9, 1};
        int[] longest = {0, 0, 0, 0, 1, 2, 2, 2, 2, 3};
        int[] where = {NONE, NONE, NONE, NONE, 1, 1, 1, 1, 1, 2};
        for (int i = 0; i < notes.length; i++) {
            x.tune(notes[i]);
            due("how long", x.twice(0), longest[i]);
            due("where", x.twice(1), where[i]);
        }
        x.tune(NONE);
        x.tune(3);
        x.tune(3);
        x.tune(3);
        due("they may overlap", x.twice(0), 2);
        due("where", x.twice(1), 0);
    }

    private static void hunt() {
        HearsayOrchestra x = new HearsayOrchestra();
        int[][] none = {{2, 0, 0}, {9, 0, 0}, {3, -1, 0}, {3, 100, 0}, {3, 0, 3}, {3, 0, -2}, {8, 0, 8}};
        for (int[] n : none) {
            due("can't be", x.hunt(n[0], n[1], n[2]), NONE);
        }
        int[][] four = {{0, 1, 2, 3}, {1, 0, 3, 2}, {1, 3, 0, 2}, {3, 1, 2, 0}, {3, 2, 1, 0}, {2, 3, 0, 1}, {2, 0, 3, 1},
            {0, 2, 1, 3}, {0, 1, 2, 3}, {1, 0, 3, 2}};
        int[] out = {0, 2, 3, 5, 6, 4, 3, 1, 0, 2};
        for (int k = 0; k < four.length; k++) {
            for (int i = 0; i < 4; i++) {
                due("hunt(4, " + k + ", " + i + ")", x.hunt(4, k, i), four[k][i]);
            }
            due("out of order", x.hunt(4, k, NONE), out[k]);
        }
        due("three behind one", x.hunt(3, 1, 2), 2);
        due("five behind two", x.hunt(5, 2, 4), 2);
        due("eight behind eight: from behind", x.hunt(8, 8, NONE), 28);
        due("behind 99", x.hunt(8, 99, 0), x.hunt(8, 3, 0));
    }

    private static void finger() {
        HearsayOrchestra x = new HearsayOrchestra();
        due("-2", x.finger(-2), NONE);
        due("25", x.finger(25), NONE);
        for (int i = 1; i <= 10; i++) {
            due("finger", x.finger(24 * (i % 2)), i);
        }
        due("eleventh", x.finger(0), NONE);
        due("nine times 9 frets and 3 strings", x.fingers(0), 9 * 15);
        due("none is then", x.finger(NONE), 0);
        due("none", x.fingers(0), 0);
        due("none", x.fingers(1), NONE);
    }

    private static void fingers() {
        HearsayOrchestra x = new HearsayOrchestra();
        due("what 2", x.fingers(2), NONE);
        due("what -1", x.fingers(-1), NONE);
        int[] firsts = {0, 0, 1, 1, 2, 2, 3};
        int[] notes = {0, 9, 10, 14, 15, 19, 20};
        for (int i = 0; i < notes.length; i++) {
            x.finger(NONE);
            x.finger(notes[i]);
            due("alone", x.fingers(0), 0);
            due("the least string", x.fingers(1), firsts[i]);
        }
        x.finger(NONE);
        x.finger(9);
        x.finger(24);
        due("9 at fret 4 of string 1, 24 at 9 of 3: 5 + 4; at fret 9 of 0: 6", x.fingers(0), 6);
        due("string", x.fingers(1), 0);
        x.finger(NONE);
        x.finger(5);
        x.finger(10);
        due("fret 0 to fret 0 or 5 to 5", x.fingers(0), 2);
        due("of several the least", x.fingers(1), 0);
        x.finger(15);
        due("0, 0, 0 or 5, 5, 5", x.fingers(0), 4);
        x.finger(16);
        due("0, 0, 0, 1 or 5, 5, 5, 6", x.fingers(0), 5);
        due("string", x.fingers(1), 0);
        x.finger(NONE);
        x.finger(5);
        x.finger(20);
        x.finger(15);
        due("5 at 5 of 0, 20 at 5 of 3, 15 at 5 of 2", x.fingers(0), 8);
        x.finger(NONE);
        x.finger(5);
        x.finger(15);
        x.finger(15);
        due("to string 1 to begin with: 0 to 0 by 2 strings, or 5 to 5 by 2", x.fingers(0), 4);
    }

    private static void quarrel() {
        HearsayOrchestra x = new HearsayOrchestra();
        int[][] none = {{0, 0}, {-2, 0}, {0, -1}, {10, 0}, {0, 10}, {3, 3}};
        for (int[] n : none) {
            due("can't be", x.quarrel(n[0], n[1]), NONE);
        }
        for (int i = 1; i <= 16; i++) {
            due("told again it is another one", x.quarrel(8, 9), i);
        }
        due("seventeenth", x.quarrel(0, 1), NONE);
        due("as it was", x.quarrels(0), 9);
        due("none is then", x.quarrel(NONE, 77), 0);
        due("none", x.quarrels(0), 10);
        due("again", x.quarrel(9, 0), 1);
    }

    private static void quarrels() {
        HearsayOrchestra x = new HearsayOrchestra();
        due("what 3", x.quarrels(3), NONE);
        due("what -1", x.quarrels(-1), NONE);
        x.quarrel(9, 0);
        due("most", x.quarrels(0), 9);
        due("ways", x.quarrels(1), 2);
        due("without 9", x.quarrels(2), 511);
        x.quarrel(0, 1);
        due("without 0", x.quarrels(0), 9);
        due("one way", x.quarrels(1), 1);
        due("without 0", x.quarrels(2), 1022);
        x.quarrel(1, 2);
        due("a path of 9 0 1 2: two of it, 9 1, 9 2 or 0 2", x.quarrels(0), 8);
        due("ways", x.quarrels(1), 3);
        due("0 and 2", x.quarrels(2), 0x1f8 | 5);
    }

    private static void bars() {
        HearsayOrchestra x = new HearsayOrchestra();
        int[][] none = {{-1, 0}, {41, 0}, {5, 2}, {5, -1}};
        for (int[] n : none) {
            due("can't be", x.bars(n[0], n[1]), NONE);
        }
        // 7: 3 4, 4 3, 2 3 2. 8: 2 4 2, 3 2 3.
        int[] ways = {1, 0, 1, 1, 1, 2, 2, 3, 2};
        int[] fewest = {0, NONE, 1, 1, 1, 2, 2, 2, 3};
        for (int n = 0; n < ways.length; n++) {
            due("ways of " + n, x.bars(n, 0), ways[n]);
            due("fewest of " + n, x.bars(n, 1), fewest[n]);
        }
        for (int n = 0; n <= 40; n++) {
            due("ways of " + n, x.bars(n, 0), waysByTrying(n, 0));
            due("fewest of " + n, x.bars(n, 1), fewestByTrying(n, 0));
        }
    }

    private static int waysByTrying(int n, int last) {
        if (n == 0) {
            return 1;
        }
        int sum = 0;
        for (int bar = 2; bar <= Math.min(4, n); bar++) {
            sum += bar == last ? 0 : waysByTrying(n - bar, bar);
        }
        return sum;
    }

    private static int fewestByTrying(int n, int last) {
        if (n == 0) {
            return 0;
        }
        int least = NONE;
        for (int bar = 2; bar <= Math.min(4, n); bar++) {
            int rest = bar == last ? NONE : fewestByTrying(n - bar, bar);
            if (rest != NONE && (least == NONE || rest + 1 < least)) {
                least = rest + 1;
            }
        }
        return least;
    }

    private static void scale() {
        HearsayOrchestra x = new HearsayOrchestra();
        int[][] none = {{-1, 0}, {4096, 0}, {1, 2}, {1, -1}};
        for (int[] n : none) {
            due("can't be", x.scale(n[0], n[1]), NONE);
        }
        int major = 1 | 4 | 16 | 32 | 128 | 512 | 2048;
        due("C F G", x.scale(major, 0), 3);
        due("D E A", x.scale(major, 1), 3);
        due("round: A C# E", x.scale(512 | 2 | 16, 0), 1);
        due("no third", x.scale(1 | 128, 0), 0);
        due("no fifth", x.scale(1 | 16, 0), 0);
        due("none", x.scale(0, 1), 0);
        due("C minor", x.scale(1 | 8 | 128, 1), 1);
        due("is not C major", x.scale(1 | 8 | 128, 0), 0);
        due("all", x.scale(4095, 1), 12);
    }

    private static void game() {
        HearsayOrchestra x = new HearsayOrchestra();
        int[][] none = {{0, 1, 0}, {1, 0, 0}, {1000, 1, 0}, {1, 1000, 0}, {-3, 2, 1}, {3, 2, 2}, {3, 2, -1}};
        for (int[] n : none) {
            due("can't be", x.game(n[0], n[1], n[2]), NONE);
        }
        int[][] table = new int[41][41];
        for (int sum = 2; sum <= 80; sum++) {
            for (int a = Math.max(1, sum - 40); a <= Math.min(40, sum - 1); a++) {
                table[a][sum - a] = winsByTrying(table, a, sum - a);
            }
        }
        for (int a = 1; a <= 40; a += 3) {
            for (int b = 1; b <= 40; b += 2) {
                due("game(" + a + ", " + b + ", 0)", x.game(a, b, 0), table[a][b]);
                due("game(" + a + ", " + b + ", 1)", x.game(a, b, 1), takingsByTrying(a, b));
            }
        }
        due("takings", x.game(987, 610, 1), 14);
        due("takings", x.game(999, 1, 1), 1);
        due("takings", x.game(999, 999, 1), 1);
    }

    private static int winsByTrying(int[][] table, int a, int b) {
        int big = Math.max(a, b);
        int small = Math.min(a, b);
        for (int times = 1; times * small <= big; times++) {
            int left = big - times * small;
            if (left == 0 || table[left][small] == NONE) {
                return times;
            }
        }
        return NONE;
    }

    private static int takingsByTrying(int a, int b) {
        int big = Math.max(a, b);
        int small = Math.min(a, b);
        if (small == 0) {
            return 0;
        }
        int least = 1000;
        for (int times = big / small; times >= 1 && times >= big / small - 1; times--) {
            least = Math.min(least, 1 + takingsByTrying(big - times * small, small));
        }
        return least;
    }

    private static void undo() {
        HearsayOrchestra x = three();
        x.set(2, 0, 5);
        x.act(2, 0, 3);
        x.act(1, 0, 0);
        x.act(0, 0, 40);
        x.beats(1);
        x.act(2, 2, 1);
        x.act(3, 2, 0);
        due("six", x.look(11), 6);
        due("hush back", x.undo(), true);
        due("NOTE", x.of(2, 4), 1);
        due("five", x.look(11), 5);
        due("strike back", x.undo(), true);
        due("NOTE", x.of(2, 4), 3);
        due("AFTER, too", x.of(2, 6), 0);
        due("beat back", x.undo(), true);
        due("BEAT", x.look(3), 0);
        due("seat back", x.undo(), true);
        due("seat", x.of(0, 3), 0);
        due("tune back", x.undo(), true);
        due("OFF", x.of(0, 5), 5);
        due("first strike back", x.undo(), true);
        due("NOTE", x.of(0, 4), NONE);
        due("nothing", x.undo(), false);
        x.act(2, 0, 7);
        x.beats(6);
        due("six are kept", x.look(11), 6);
        for (int i = 0; i < 6; i++) {
            due("a beat back", x.undo(), true);
        }
        due("nothing", x.undo(), false);
        due("BEAT", x.look(3), 0);
        due("the strike is not undone", x.of(0, 4), 7);
        x.beats(2);
        x.undo();
        x.beats(1);
        due("one undone, one more", x.look(11), 2);
        // What leaves it: refused calls, the law, what is told for thought, the image's taking.
        x.state(9);
        x.act(2, 0, 8);
        x.player(0, 0, 0, 0);
        x.set(0, 0, 0);
        x.act(9, 0, 0);
        x.beats(0);
        tell(x, 0, "slips 0;");
        tell(x, 1, "at");
        x.cost(0, 1, 3);
        x.note(3);
        x.tune(3);
        x.finger(3);
        x.quarrel(3, 4);
        x.goes(3, 0);
        x.all();
        x.image(true);
        due("kept", x.look(11), 1);
        due("undo", x.undo(), true);
        due("the law stays", x.look(6), 1);
        due("the cost stays", x.desks(2, 0), 3);
        due("undo leaves the image", x.image(false), true);
        due("NOTE", x.of(0, 4), 8);
        due("going back forgets", x.undo(), false);
        x.act(2, 0, 9);
        tell(x, 1, "");
        due("score forgets", x.undo(), false);
        x.act(2, 0, 1);
        tell(x, 2, "");
        due("stage forgets", x.undo(), false);
        x.act(2, 0, 2);
        tell(x, 3, "");
        due("pillars forget", x.undo(), false);
    }

    private static void image() {
        HearsayOrchestra x = three();
        due("none", x.image(false), false);
        x.act(2, 0, 1);
        due("refused leaves what can be undone", x.image(false), false);
        due("kept", x.look(11), 1);
        tell(x, 0, "hears 1; slips 1;");
        tell(x, 1, "at 1 player 1 note 3;");
        tell(x, 2, "at 1 seat 1 5 5; at 1 hush 2;");
        tell(x, 3, "pillar 3 3; pillar 3 3;");
        x.state(77);
        x.set(2, 2, 9);
        x.cost(0, 1, 3);
        x.note(3);
        x.note(4);
        x.tune(3);
        x.tune(3);
        x.finger(9);
        x.finger(24);
        x.quarrel(0, 1);
        x.beats(1);
        due("taken", x.image(true), true);
        for (int again = 0; again < 2; again++) {
            x.beats(3);
            tell(x, 0, "bends 4;");
            x.state(5);
            tell(x, 1, "");
            tell(x, 2, "");
            tell(x, 3, "pillar 6 5;");
            x.player(1, 1, 1, 4);
            x.set(0, 0, 1);
            x.set(1, 0, 1);
            x.set(2, 0, 1);
            x.act(0, 0, 30);
            x.act(2, 1, 6);
            x.cost(0, 1, 9);
            x.note(NONE);
            x.tune(NONE);
            x.finger(NONE);
            x.quarrel(NONE, 0);
            bad(x, 3, "pillar;", 1, 6);
            x.feed(0, 0, 0, 0, 0);
            due("gone back to", x.image(false), true);
            due("fault() is left", x.fault(0), 1);
            due("its place is left", x.fault(1), 6);
            due("the tape is left", x.end(20), true);
            x.end(0);
            int[] looks = {3, 6, 1, 1, 4, x.look(5), 2, 1, 2, 2, 1, 0};
            for (int what = 0; what < 12; what++) {
                due("look(" + what + ")", x.look(what), looks[what]);
            }
            due("STATE", x.look(5) != 5, true);
            due("LOUD", x.of(0, 0), 9);
            due("EAR", x.of(0, 1), 5);
            due("y", x.of(0, 3), 0);
            due("OFF", x.of(0, 5), 0);
            due("NOTE", x.of(1, 4), 1);
            due("hears", x.of(1, 10), 1);
            due("pillar", x.seat(3, 3, 1), 1);
            due("desks", x.desks(2, 0), 3);
            due("series", x.series(0, 0, 1), 4);
            due("twice", x.twice(0), 1);
            due("fingers", x.fingers(0), 6);
            due("quarrels", x.quarrels(0), 9);
            due("book", x.book(1, 1), 2);
            due("nothing can be undone", x.undo(), false);
        }
        x.beats(1);
        due("score goes on", x.of(1, 4), 3);
        due("stage goes on", x.seat(5, 5, 0), 1);
        due("taken anew", x.image(true), true);
        due("gone back to", x.image(false), true);
        due("the new one", x.look(3), 2);
    }

    private static void look() {
        HearsayOrchestra x = three();
        int none = NONE - 99999;
        due("look(-1)", x.look(-1), none);
        due("look(12)", x.look(12), none);
        due("look(max)", x.look(Integer.MAX_VALUE), none);
        due("look(0)", x.look(0), 3);
        x.act(2, 2, 0);
        x.act(2, 0, 0);
        due("look(1)", x.look(1), 5);
        due("look(11)", x.look(11), 2);
        tell(x, 0, "slips 1000;");
        x.beats(1);
        due("UNISONS", x.look(2), 1);
        due("BEAT", x.look(3), 1);
        due("lines", x.look(4), 5);
        due("three draws", x.look(5) != 0, true);
        due("look(6)", x.look(6), 1);
        due("look(11)", x.look(11), 3);
        tell(x, 1, "at 1 player 0 note 0; at 2 player 0 note 0;");
        due("look(7)", x.look(7), 2);
        tell(x, 2, "at 1 hush 0;");
        due("look(8)", x.look(8), 1);
        tell(x, 3, "pillar 7 0; pillar 7 0; pillar 7 1;");
        due("look(9)", x.look(9), 3);
        due("look(10)", x.look(10), 2);
        due("look(11)", x.look(11), 0);
        x.state(-5);
        due("STATE as it is", x.look(5), -5);
    }

    private static void hall() {
        promise = 1;
        newObject();
        promise = 2;
        state();
        promise = 3;
        player();
        promise = 4;
        set();
        promise = 5;
        act();
        promise = 6;
        beats();
        aBeat();
        aStage();
        unisons();
        promise = 7;
        feed();
        promise = 8;
        end();
        promise = 9;
        text();
        promise = 10;
        fault();
        longTexts();
        promise = 11;
        of();
        wrongs();
        promise = 12;
        seat();
        promise = 13;
        book();
    }

    private static void thought() {
        promise = 14;
        goes();
        promise = 15;
        all();
        promise = 16;
        round();
        promise = 17;
        cost();
        promise = 18;
        desks();
        promise = 19;
        chord();
        promise = 20;
        note();
        promise = 21;
        series();
        promise = 22;
        tune();
        promise = 23;
        canon();
        promise = 24;
        twice();
        promise = 25;
        hunt();
    }

    private static void rest() {
        promise = 26;
        finger();
        promise = 27;
        fingers();
        promise = 28;
        quarrel();
        promise = 29;
        quarrels();
        promise = 30;
        bars();
        promise = 31;
        scale();
        promise = 32;
        game();
        promise = 33;
        undo();
        promise = 34;
        image();
        promise = 35;
        look();
    }

    public static void main(String[] args) {
        hall();
        thought();
        rest();
        System.out.println(asked + " answers, " + wrong + " of them not as due");
        if (wrong != 0) {
            System.exit(1);
        }
    }
}
