import java.io.IOException;

/** Boundary cases of the TAPE, the TEXTS, their tokens, lines and faults, and of what the law tells: promises 7 to 10. */
public final class BoundsOfTexts {
    private static final int NONE = Bench.NONE;
    private static final int MIN = Bench.MIN;
    private static final int MAX = Bench.MAX;
    private static final int BLANKS = 0x20202020;

    private static void due(int got, int want) {
        Bench.due(got, want);
    }

    private static void yes(boolean got) {
        Bench.yes(got);
    }

    private static void no(boolean got) {
        Bench.no(got);
    }

    private static void none(int got) {
        Bench.none(got);
    }

    private static void good(Counted x, int k, String text, int lines) {
        Bench.good(x, k, text, lines);
    }

    private static void bad(Counted x, int k, String text, int fault, int place) {
        Bench.bad(x, k, text, fault, place);
    }

    private static String times(int n, String text) {
        return text.repeat(n);
    }

    private static void tape() {
        Bench.test("Twenty bytes come behind the TAPE, of each number the highest first: how many it has.", () -> {
            Counted x = Scenes.empty();
            // "hears 1;" and a byte 255 at 8, by a number below 0.
            due(x.feed(0x68656172, 0x7320313b, 0xff202020, BLANKS, BLANKS), 20);
            none(x.text(0));
            due(x.fault(1), 8);
            due(x.feed(BLANKS, BLANKS, BLANKS, BLANKS, 0x2020ff20), 20);
            none(x.text(0));
            due(x.fault(1), 18);
            due(x.feed(MIN, MAX, 0, -1, 1), 20);
            yes(x.end(3));
            due(x.feed(BLANKS, BLANKS, BLANKS, BLANKS, BLANKS), 23);
            none(x.text(0));
            due(x.fault(1), 0);
        });
        Bench.test("NONE, and nothing comes, if there would be more than 400.", () -> {
            Bench.refused(Scenes::full, NONE, x -> x.feed(0, 0, 0, 0, 0), x -> x.feed(MIN, MAX, -1, 1, 0));
            Counted x = Scenes.empty();
            for (int i = 1; i <= 20; i++) {
                due(x.feed(BLANKS, BLANKS, BLANKS, BLANKS, BLANKS), 20 * i);
            }
            none(x.feed(0, 0, 0, 0, 0));
            yes(x.end(381));
            none(x.feed(0, 0, 0, 0, 0));
            no(x.end(382));
            yes(x.end(381));
            yes(x.end(380));
            due(x.feed(BLANKS, BLANKS, BLANKS, BLANKS, BLANKS), 400);
            due(x.text(0), 0);
            due(x.feed(BLANKS, BLANKS, BLANKS, BLANKS, BLANKS), 20);
        });
        Bench.test("The TAPE has its first n bytes alone: true; false, changing nothing, if it has not so many, or n is below 0.", () -> {
            Bench.refused(Scenes::rich, x -> x.end(21), x -> x.end(-1), x -> x.end(MIN), x -> x.end(MAX), x -> x.end(400));
            Bench.refused(Scenes::full, x -> x.end(401), x -> x.end(-1));
            Counted x = Scenes.empty();
            yes(x.end(0));
            no(x.end(1));
            no(x.end(-1));
            x.feed(0x68656172, 0x7320313b, 0x78202020, BLANKS, BLANKS);
            yes(x.end(20));
            yes(x.end(8));
            no(x.end(9));
            due(x.text(0), 1);
            x.feed(0x68656172, 0x7320313b, 0x78202020, BLANKS, BLANKS);
            yes(x.end(0));
            due(x.text(0), 0);
            // What stood behind the end is gone: digits and letters that are cut go on no more.
            Counted y = Scenes.three();
            Bench.feed(y, "slips 12;");
            yes(y.end(7));
            none(y.text(0));
            due(y.fault(1), 7);
            Bench.feed(y, "slips 12345;");
            yes(y.end(10));
            none(y.text(0));
            due(y.fault(1), 10);
            Bench.feed(y, "slips 12345;");
            yes(y.end(10));
            y.feed(0x3b202020, BLANKS, BLANKS, BLANKS, BLANKS);
            due(y.text(0), 1);
            due(y.of(0, 31), 1000);
            Bench.feed(y, "slips earx");
            yes(y.end(9));
            y.feed(0x3b202020, BLANKS, BLANKS, BLANKS, BLANKS);
            due(y.text(0), 1);
            due(y.of(0, 31), 5);
            Bench.feed(y, "slips ear");
            yes(y.end(8));
            none(y.text(0));
            due(y.fault(1), 6);
        });
    }

    private static void texts() {
        Bench.test("TEXTS (empty at first).", () -> {
            Counted x = Scenes.empty();
            for (int what = 6; what <= 9; what++) {
                due(x.look(what), 0);
            }
            for (int k = 0; k < 4; k++) {
                good(x, k, "", 0);
            }
        });
        Bench.test("The TAPE, empty then (whatever k, with a FAULT too), is TEXT k: how many lines.", () -> {
            Counted x = Scenes.three();
            int[] ks = {-1, 0, 1, 2, 3, 4, MIN, MAX};
            for (int k : ks) {
                Bench.feed(x, "x");
                none(x.text(k));
                no(x.end(1));
            }
            String[] lines = {"hears 1;", "at 1 player 0 note 1;", "at 1 hush 0;", "pillar 7 5;"};
            for (int k = 0; k < 4; k++) {
                good(x, k, lines[k], 1);
                no(x.end(1));
                due(x.look(6 + k), 1);
                good(x, k, times(16, lines[k]), 16);
                due(x.look(6 + k), 16);
                good(x, k, "", 0);
                due(x.look(6 + k), 0);
            }
        });
        Bench.test("NONE: no such one (fault() tells 0), or a FAULT (it stays as it was).", () -> {
            Bench.refusedText(Scenes::rich, x -> x.text(-1), x -> x.text(4), x -> x.text(MIN), x -> x.text(MAX));
            Bench.refusedText(Scenes::rich, x -> x.text(1), x -> x.text(2), x -> x.text(3));
            Bench.refusedText(Scenes::rich, x -> faulty(x, 0, "hears 9; slips 9; bends 9; hears 1 when 1=1"),
                    x -> faulty(x, 0, "hears 1/0;"), x -> faulty(x, 0, times(17, "hears 1;")),
                    x -> faulty(x, 1, "at 2 player 0 note 9; at 3 player 4 note 1;"), x -> faulty(x, 1, "at 2 player 0 note 9"),
                    x -> faulty(x, 2, "at 2 hush 0; at 2 seat 1 7 7;"), x -> faulty(x, 2, "at 2 hush 0"),
                    x -> faulty(x, 3, "pillar 7 5; pillar 0 0;"), x -> faulty(x, 3, "pillar 7 5; pillar 7 4"));
            Counted x = Scenes.rich();
            due(x.fault(0), 2);
            none(x.text(4));
            due(x.fault(0), 0);
            none(x.fault(1));
            bad(x, 3, "pillar 8 0;", 2, 7);
            none(x.text(-1));
            due(x.fault(0), 0);
            none(x.fault(1));
        });
        Bench.test("Of the latest text() what 0 the FAULT (0 without one), 1 its place (NONE). NONE for another what.", () -> {
            Counted x = Scenes.empty();
            due(x.fault(0), 0);
            none(x.fault(1));
            bad(x, 0, "x", 1, 0);
            bad(x, 0, times(399, " ") + "x", 1, 399);
            bad(x, 0, "bends 1/0;", 2, 8);
            bad(x, 3, times(17, "pillar 1 1;"), 3, 176);
            good(x, 0, "", 0);
            bad(x, 0, "x", 1, 0);
            Bench.feed(x, "hears 1;");
            due(x.fault(0), 1);
            Bench.refused(Scenes::rich, NONE, y -> y.fault(-1), y -> y.fault(2), y -> y.fault(MIN), y -> y.fault(MAX));
        });
    }

    private static int faulty(Counted x, int k, String text) {
        x.end(0);
        return Bench.tell(x, k, text);
    }

    private static void lines() {
        Bench.test("1 SCORE = {at BEAT player PLAYER note N ;} (BEAT 0 .. 999; N 0 .. 11.)", () -> {
            Counted x = Scenes.three();
            good(x, 1, "at 0 player 0 note 0; at 999 player 2 note 11;", 2);
            good(x, 1, "at 0000 player 0000 note 0011;", 1);
            bad(x, 1, "at 1000 player 0 note 0;", 2, 3);
            bad(x, 1, "at 9999 player 0 note 0;", 2, 3);
            bad(x, 1, "at 0 player 0 note 12;", 2, 19);
            bad(x, 1, "at 0 player 0 note -1;", 1, 19);
            bad(x, 1, "at -1 player 0 note 0;", 1, 3);
            bad(x, 1, "at 0 player 3 note 0;", 2, 12);
            due(x.look(7), 1);
        });
        Bench.test("2 STAGE = {at BEAT (seat PLAYER X Y | loud PLAYER N | tune PLAYER | hush PLAYER) ;}"
                + " (BEAT 0 .. 999; X 0 .. 7, Y 0 .. 5; N 1 .. 9.)", () -> {
            Counted x = Scenes.three();
            good(x, 2, "at 0 seat 0 0 0; at 999 seat 2 7 5; at 0 loud 0 1; at 999 loud 2 9; at 0 tune 0; at 999 tune 2;"
                    + "at 0 hush 0; at 999 hush 2;", 8);
            bad(x, 2, "at 1000 hush 0;", 2, 3);
            bad(x, 2, "at 0 seat 0 8 0;", 2, 12);
            bad(x, 2, "at 0 seat 0 0 6;", 2, 14);
            bad(x, 2, "at 0 loud 0 0;", 2, 12);
            bad(x, 2, "at 0 loud 0 10;", 2, 12);
            bad(x, 2, "at 0 seat 3 0 0;", 2, 10);
            bad(x, 2, "at 0 loud 3 1;", 2, 10);
            bad(x, 2, "at 0 tune 3;", 2, 10);
            bad(x, 2, "at 0 hush 3;", 2, 10);
            due(x.look(8), 8);
        });
        Bench.test("3 PILLARS = {pillar X Y ;} (where no PLAYER sits; all others are gone; told twice it is one.)", () -> {
            Counted x = Scenes.three();
            good(x, 3, "pillar 7 5; pillar 0 5; pillar 7 0;", 3);
            due(x.look(10), 3);
            bad(x, 3, "pillar 8 0;", 2, 7);
            bad(x, 3, "pillar 0 6;", 2, 9);
            bad(x, 3, "pillar 0 0;", 2, 9);
            due(x.look(10), 3);
            good(x, 3, "pillar 7 5; pillar 7 5; pillar 07 005;", 3);
            due(x.look(10), 1);
            due(x.seat(7, 5, 1), 1);
            due(x.seat(0, 5, 1), 0);
            due(x.look(9), 3);
            good(x, 3, "", 0);
            due(x.look(10), 0);
            // Who goes away leaves his seat to a pillar.
            bad(x, 3, "pillar 2 2;", 2, 9);
            x.act(0, 2, 47);
            good(x, 3, "pillar 2 2;", 1);
            bad(x, 3, "pillar 7 5;", 2, 9);
        });
        Bench.test("16 lines of each at most.", () -> {
            Counted x = Scenes.three();
            String[] line = {"slips 1;", "at 1 player 0 note 1;", "at 1 hush 0;", "pillar 7 5;"};
            for (int k = 0; k < 4; k++) {
                good(x, k, times(15, line[k]), 15);
                bad(x, k, times(17, line[k]), 3, 16 * line[k].length());
                due(x.look(6 + k), 15);
                good(x, k, times(16, line[k]), 16);
                bad(x, k, times(16, line[k]) + "\n " + line[k], 3, 16 * line[k].length() + 2);
                due(x.look(6 + k), 16);
            }
            // The sixteenth counts as the others do.
            good(x, 0, times(15, "slips 1;") + "bends 7;", 16);
            due(x.of(0, 51), 7);
        });
    }

    private static void tokens() {
        Bench.test("letters (a .. z, A .. Z) as many as stand together are KEYWORDS (those told here for that text) or none", () -> {
            Counted x = Scenes.three();
            String[] none = {"hear 1;", "hearss 1;", "Hears 1;", "HEARS 1;", "hearS 1;", "zhears 1;", "hearsZ 1;", "a 1;", "z 1;", "A 1;",
                "Z 1;", "at 1;", "pillar 1;", "player 1;", "seat 1;", "tune 1;", "hush 1;", "hearsslips 1;"};
            for (String text : none) {
                bad(x, 0, text, 1, 0);
            }
            // Signs beside the letters are none, so that a word ends there.
            String[] beside = {"@", "[", "`", "{"};
            for (String sign : beside) {
                bad(x, 0, "hears" + sign, 1, 5);
                bad(x, 0, sign + "hears 1;", 1, 0);
            }
            good(x, 0, "hears1;slips2when3<4;", 2);
        });
        Bench.test("KEYWORDS (those told here for that text)", () -> {
            Counted x = Scenes.three();
            bad(x, 1, "hears 1;", 1, 0);
            bad(x, 1, "at 0 seat 0 1 1;", 1, 5);
            bad(x, 1, "at 0 player 0 loud 1;", 1, 14);
            bad(x, 2, "at 0 player 0 note 1;", 1, 5);
            bad(x, 2, "at 0 note 0;", 1, 5);
            bad(x, 2, "pillar 7 5;", 1, 0);
            bad(x, 3, "at 0 hush 0;", 1, 0);
            bad(x, 3, "pillars 7 5;", 1, 0);
            bad(x, 0, "hears pillar;", 1, 6);
            bad(x, 0, "hears player;", 1, 6);
            bad(x, 0, "hears at;", 1, 6);
            good(x, 0, "hears pillars;", 1);
            good(x, 0, "hears loud+note;", 1);
        });
        Bench.test("digits as many as stand together NUMBERS of 1 to 4 digits or none", () -> {
            Counted x = Scenes.three();
            good(x, 0, "slips 0;", 1);
            due(x.of(0, 31), 0);
            good(x, 0, "slips 9999/11;", 1);
            due(x.of(0, 31), 909);
            good(x, 0, "slips 0007;", 1);
            due(x.of(0, 31), 7);
            bad(x, 0, "slips 10000;", 1, 6);
            bad(x, 0, "slips 00000;", 1, 6);
            bad(x, 0, "slips 00007;", 1, 6);
            bad(x, 0, "slips 4294967297;", 1, 6);
            bad(x, 0, "slips 1/00000;", 1, 8);
            bad(x, 1, "at 00000 player 0 note 0;", 1, 3);
            bad(x, 1, "at 0 player 00000 note 0;", 1, 12);
            bad(x, 2, "at 0 loud 0 00001;", 1, 12);
            bad(x, 3, "pillar 00001 1;", 1, 7);
            bad(x, 3, "pillar 1 00001;", 1, 9);
            // Signs beside the digits are none of them.
            bad(x, 0, "slips 1:;", 1, 7);
            good(x, 0, "slips 1/1;", 1);
            due(x.of(0, 31), 1);
        });
        Bench.test("; + - * / ( ) < = > .", () -> {
            // Each byte behind a sum: ; ends the line, a sum or a blank can go on (the end is wrong then), all else can't stand.
            String goesOn = " \n+-*/0123456789";
            for (int sign = 0; sign < 256; sign++) {
                Counted x = Scenes.empty();
                if (sign == ';') {
                    good(x, 0, "hears 1;", 1);
                } else {
                    bad(x, 0, "hears 1" + (char) sign, 1, goesOn.indexOf(sign) >= 0 ? 8 : 7);
                }
            }
            // Where a clause stands: ( opens another one, a number a sum; behind a sum < = > go on, too.
            String opens = " \n(0123456789";
            String compares = " \n+-*/<=>0123456789";
            for (int sign = 0; sign < 256; sign++) {
                Counted x = Scenes.empty();
                bad(x, 0, "hears 1 when " + (char) sign, 1, opens.indexOf(sign) >= 0 ? 14 : 13);
                bad(x, 0, "hears 1 when 1" + (char) sign, 1, compares.indexOf(sign) >= 0 ? 15 : 14);
                // An open ( waits for ).
                bad(x, 0, "hears 1 when (1=1" + (char) sign, 1, (" \n+-*/)0123456789").indexOf(sign) >= 0 ? 18 : 17);
            }
        });
        Bench.test("Blanks (32, 10) between.", () -> {
            Counted x = Scenes.empty();
            good(x, 0, "  \n\n hears\n1\n\n;  \n", 1);
            good(x, 0, times(400, " "), 0);
            good(x, 0, times(400, "\n"), 0);
            int[] others = {0, 9, 11, 12, 13, 31, 33, 127, 128, 160, 255};
            for (int sign : others) {
                bad(x, 0, "hears" + (char) sign + "1;", 1, 5);
            }
            bad(x, 0, "he ars 1;", 1, 0);
            bad(x, 0, "hears 1 2;", 1, 8);
        });
    }

    private static void faults() {
        Bench.test("FAULTS, the first by its place, at one place the least", () -> {
            Counted x = Scenes.three();
            bad(x, 0, "hears 1/0; hears x;", 2, 8);
            bad(x, 0, "hears x; hears 1/0;", 1, 6);
            bad(x, 1, "at 1000 player 9 note 99;", 2, 3);
            bad(x, 1, "at 999 player 9 note 99;", 2, 14);
            bad(x, 1, "at 999 player 2 note 99", 2, 21);
            bad(x, 1, "at 999 player 2 note 11", 1, 23);
            // At one place: a 17th line that can't stand there either, a ninth ( where none can stand.
            bad(x, 0, times(16, "bends 1;") + "hush 1;", 1, 128);
            bad(x, 0, times(16, "bends 1;") + "bends 1/0;", 3, 128);
            bad(x, 0, "hears 1 when " + times(8, "(") + "1(", 1, 22);
            bad(x, 0, "hears 1 when " + times(8, "(") + "1=1 not", 1, 25);
            bad(x, 0, "hears 1 when " + times(8, "(") + "(1/0", 3, 21);
            bad(x, 0, "hears 1 when " + times(8, "(") + "1/0", 2, 23);
            bad(x, 3, "pillar 8 6;", 2, 7);
        });
        Bench.test("1 what can't stand there (the end: the text's length).", () -> {
            Counted x = Scenes.three();
            String[] cut = {"hears", "hears 1", "hears 1+", "hears 1*", "hears 1/", "hears 1 when", "hears 1 when 1", "hears 1 when 1=",
                "hears 1 when 1=1", "hears 1 when not", "hears 1 when (", "hears 1 when (1=1", "hears 1 when 1=1 and", "hears 1 when 1=1 or"};
            for (String text : cut) {
                bad(x, 0, text, 1, text.length());
                bad(x, 0, text + " \n ", 1, text.length() + 3);
            }
            String[] score = {"at", "at 0", "at 0 player", "at 0 player 0", "at 0 player 0 note", "at 0 player 0 note 0"};
            for (String text : score) {
                bad(x, 1, text, 1, text.length());
            }
            String[] stage = {"at", "at 0", "at 0 seat", "at 0 seat 0", "at 0 seat 0 1", "at 0 seat 0 1 1", "at 0 loud", "at 0 loud 0",
                "at 0 loud 0 1", "at 0 tune", "at 0 tune 0", "at 0 hush", "at 0 hush 0"};
            for (String text : stage) {
                bad(x, 2, text, 1, text.length());
            }
            String[] pillars = {"pillar", "pillar 1", "pillar 1 1"};
            for (String text : pillars) {
                bad(x, 3, text, 1, text.length());
            }
            bad(x, 0, "hears" + times(395, " "), 1, 400);
        });
        Bench.test("2 (at the NUMBER) a part by 0", () -> {
            Counted x = Scenes.three();
            bad(x, 0, "hears 1/0;", 2, 8);
            bad(x, 0, "hears 1/0000;", 2, 8);
            bad(x, 0, "hears 1 / 1 / 0;", 2, 14);
            bad(x, 0, "hears 1 when 1=1/0;", 2, 17);
            bad(x, 0, "hears 1/ear;", 1, 8);
            good(x, 0, "hears 9/1;", 1);
            due(x.of(0, 11), 9);
            good(x, 0, "hears 0/9999*0;", 1);
            due(x.of(0, 11), 0);
            good(x, 0, "hears 9998/9999+9999/9999;", 1);
            due(x.of(0, 11), 1);
        });
        Bench.test("a PLAYER that there is not", () -> {
            Counted x = Scenes.empty();
            bad(x, 1, "at 0 player 0 note 0;", 2, 12);
            bad(x, 2, "at 0 tune 0;", 2, 10);
            x.player(5, 5, 0, 0);
            good(x, 1, "at 0 player 0 note 0;", 1);
            good(x, 2, "at 0 tune 0;", 1);
            bad(x, 1, "at 0 player 1 note 0;", 2, 12);
            bad(x, 2, "at 0 tune 1;", 2, 10);
            Counted twelve = Scenes.twelve();
            good(twelve, 1, "at 0 player 11 note 0;", 1);
            good(twelve, 2, "at 0 seat 11 7 5;", 1);
            bad(twelve, 1, "at 0 player 12 note 0;", 2, 12);
            bad(twelve, 2, "at 0 seat 12 7 5;", 2, 10);
        });
        Bench.test("a SEAT on which a PLAYER sits (of PILLARS, at Y).", () -> {
            Counted x = Scenes.three();
            bad(x, 3, "pillar 2 2;", 2, 9);
            bad(x, 3, "pillar 2\n  0;", 2, 11);
            bad(x, 3, "pillar 7 5; pillar 0 0", 2, 21);
            good(x, 3, "pillar 2 1; pillar 1 2; pillar 0 2;", 3);
            // Of STAGE a seat that is taken, or has a pillar, can be told.
            good(x, 2, "at 0 seat 0 2 2; at 0 seat 0 2 1;", 2);
        });
        Bench.test("3 (at its KEYWORD) the 17th line of a text", () -> {
            Counted x = Scenes.three();
            bad(x, 0, times(16, "bends 1;") + "slips", 3, 128);
            bad(x, 0, times(16, "bends 1;") + ";", 1, 128);
            bad(x, 0, times(16, "bends 1;") + "1", 1, 128);
            bad(x, 0, times(16, "bends 1;") + "when", 1, 128);
            bad(x, 1, times(16, "at 1 player 2 note 1;") + "at", 3, 336);
            bad(x, 1, times(16, "at 1 player 2 note 1;") + "player", 1, 336);
            bad(x, 2, times(16, "at 1 hush 2;") + "at", 3, 192);
            bad(x, 2, times(16, "at 1 hush 2;") + "hush", 1, 192);
            bad(x, 3, times(16, "pillar 7 5;") + " pillar", 3, 177);
            bad(x, 3, times(16, "pillar 7 5;") + " at", 1, 177);
            bad(x, 3, times(15, "pillar 7 5;") + "pillar 8 5;pillar", 2, 172);
        });
        Bench.test("(at it) the 9th ( or not that is open.", () -> {
            Counted x = Scenes.three();
            good(x, 0, "hears 1 when " + times(8, "(") + "1=1" + times(8, ")") + ";", 1);
            good(x, 0, "hears 1 when " + times(8, "not ") + "1=1;", 1);
            due(x.of(0, 11), 1);
            good(x, 0, "hears 1 when " + times(4, "not (") + "1=1" + times(4, ")") + ";", 1);
            bad(x, 0, "hears 1 when " + times(9, "(") + "1=1" + times(9, ")") + ";", 3, 21);
            bad(x, 0, "hears 1 when " + times(9, "not ") + "1=1;", 3, 45);
            bad(x, 0, "hears 1 when " + times(4, "not (") + "not 1=1" + times(4, ")") + ";", 3, 33);
            bad(x, 0, "hears 1 when " + times(4, "not (") + "(1=1)" + times(4, ")") + ";", 3, 33);
            bad(x, 0, "hears 1 when " + times(8, "not ") + "(1=1);", 3, 45);
            // What is shut is not open: nine beside one another, and nine in two goes.
            good(x, 0, "hears 1 when (1=1)" + times(8, "and(1=1)") + ";", 1);
            good(x, 0, "hears 1 when not 1=2" + times(8, " and not 1=2") + ";", 1);
            due(x.of(0, 11), 1);
            good(x, 0, "hears 1 when " + times(8, "(") + "1=1" + times(8, ")") + "or" + times(8, "(") + "1=1" + times(8, ")") + ";", 1);
            good(x, 0, "hears 1 when " + times(7, "(") + "(1=1)and(1=1)" + times(7, ")") + ";", 1);
            bad(x, 0, "hears 1 when " + times(7, "(") + "(1=1)and((1=1))" + times(7, ")") + ";", 3, 29);
            // In another line they are counted anew.
            good(x, 0, times(2, "hears 1 when " + times(8, "(") + "1=1" + times(8, ")") + ";"), 2);
        });
    }

    private static final String[] SO = {"1=1", "1<2", "2>1"};
    private static final String[] NOT_SO = {"1=2", "1<1", "2>2", "2<1", "1>2"};

    private static String clause(boolean so, int i) {
        return so ? SO[i % SO.length] : NOT_SO[i % NOT_SO.length];
    }

    /** Each form with each comparison in each place, so or not. */
    private static void form(String form, int due) {
        for (int i = 0; i < 5; i++) {
            Counted x = Scenes.three();
            for (int bits = 0; bits < 8; bits++) {
                String b = form.replace("A", clause((bits & 1) != 0, i)).replace("B", clause((bits & 2) != 0, i + 1))
                        .replace("C", clause((bits & 4) != 0, i + 2));
                good(x, 0, "slips 1 when " + b + ";slips 2;", 2);
                due(x.of(0, 31), (due >> bits & 1) == 1 ? 1 : 2);
            }
        }
    }

    private static void grammar() {
        Bench.test("B = A {or A}.  A = C {and C}.  C = E (< | = | >) E | not C | ( B ).", () -> {
            // Bit 4 c + 2 b + a of the number tells whether the form is so.
            form("A and B", 0x88);
            form("A or B", 0xee);
            form("not A", 0x55);
            form("not not A", 0xaa);
            form("A or B and C", 0xea);
            form("A and B or C", 0xf8);
            form("(A or B) and C", 0xe0);
            form("A and (B or C)", 0xa8);
            form("not A and B", 0x44);
            form("not A or B", 0xdd);
            form("not (A or B)", 0x11);
            form("not (A and B) or C", 0xf7);
            form("A and B and C", 0x80);
            form("A or B or C", 0xfe);
            form("A and not B or not C", 0x2f);
        });
        Bench.test("E = T {(+ | -) T}.  T = U {* U | / NUMBER}.  U = NUMBER | loud | ear | far | pillars | off | note | wrong | sounding | beat.", () -> {
            Counted x = Scenes.three();
            String[] sums = {"10-3-2", "2*3/4*5", "7/2*2", "100-2*3+20/3/2", "1+2*3", "0-0", "5-5*1", "8/2/2", "2*2*2-1-1-1"};
            int[] values = {5, 5, 6, 97, 7, 0, 0, 2, 5};
            for (int i = 0; i < sums.length; i++) {
                good(x, 0, "hears " + sums[i] + ";", 1);
                due(x.of(0, 11), values[i]);
            }
            bad(x, 0, "hears 1+(2);", 1, 8);
            bad(x, 0, "hears -1;", 1, 6);
            bad(x, 0, "hears 1--1;", 1, 8);
            bad(x, 0, "hears +1;", 1, 6);
            bad(x, 0, "hears 1*-1;", 1, 8);
            bad(x, 0, "hears;", 1, 5);
            bad(x, 0, "hears when 1=1;", 1, 6);
        });
        Bench.test("0 THE LAW = {(hears | slips | bends) E [when B] ;}.", () -> {
            // As much as the tape can take: sums, clauses and what is open, again and again.
            Counted x = Scenes.three();
            for (int i = 0; i < 4; i++) {
                good(x, 0, "hears 1" + times(180, "+1") + "-" + i + " when 1<2;slips " + i + ";", 2);
                due(x.of(0, 11), 181 - i);
                due(x.of(0, 31), i);
            }
            good(x, 0, "slips 7 when 1=1" + times(47, " and 1=1") + ";", 1);
            due(x.of(0, 31), 7);
            good(x, 0, "slips 7 when 1=2" + times(53, " or 1=2") + " or 1=1;", 1);
            due(x.of(0, 31), 7);
            String deep = times(8, "1=2 or 1=1 and (");
            good(x, 0, "slips 7 when " + deep + "1+2*3=7" + times(8, ")") + ";slips 8;", 2);
            due(x.of(0, 31), 7);
            good(x, 0, "slips 7 when " + deep + "1+2*3=9" + times(8, ")") + ";slips 8;", 2);
            due(x.of(0, 31), 8);
            good(x, 0, "slips 1;" + times(392, " "), 1);
            good(x, 0, times(392, " ") + "slips 1;", 1);
            due(x.of(0, 31), 1);
        });
    }

    private static void law() {
        Bench.test("Ints, which wrap; / goes towards 0.", () -> {
            Counted x = Scenes.three();
            // 9999 * 9999 * 9999 = 999700029999, less 233 times 2^32: -1027349969.
            good(x, 0, "hears 9999*9999*9999/9999/9999;", 1);
            due(x.of(0, 11), -10);
            good(x, 0, "hears 0-7/2+0;", 1);
            due(x.of(0, 11), -3);
            good(x, 0, "hears note*7/2;", 1);
            due(x.of(0, 11), -3);
            good(x, 0, "hears note*1/2;", 1);
            due(x.of(0, 11), 0);
            good(x, 0, "hears 7/2;", 1);
            due(x.of(0, 11), 3);
            // 2^31: 65536 times 32768 comes to the least int, one less to the greatest.
            good(x, 0, "hears 256*256*256*128/4096/1024;", 1);
            due(x.of(0, 11), -512);
            good(x, 0, "slips 1 when 256*256*256*128<0; slips 2;", 2);
            due(x.of(0, 31), 1);
            good(x, 0, "slips 1 when 256*256*256*128-1>0; slips 2;", 2);
            due(x.of(0, 31), 1);
            good(x, 0, "slips 1 when 256*256*256*256=0; slips 2;", 2);
            due(x.of(0, 31), 1);
        });
        Bench.test("E of the first line with that word whose B is so, or that has none", () -> {
            Counted x = Scenes.three();
            good(x, 0, "slips 1 when 1<1; slips 2 when 1>1; slips 3 when not 1=1; slips 4 when 1=1; slips 5;", 5);
            due(x.of(0, 31), 4);
            good(x, 0, "slips 1; slips 2 when 1=1;", 2);
            due(x.of(0, 31), 1);
            good(x, 0, times(15, "slips 1 when 1=2;") + "slips 16;", 16);
            due(x.of(0, 31), 16);
            good(x, 0, "slips 1 when loud<5;slips 2 when loud=5;slips 3 when loud>5;", 3);
            due(x.of(0, 31), 2);
            due(x.of(0, 32), 1);
            due(x.of(1, 30), 3);
        });
        Bench.test("(none: hears: 20 times loud less 10 times far less 30 times pillars, slips: 200 less 20 times ear, bends: ear)", () -> {
            Counted x = Scenes.empty();
            x.player(9, 0, 0, 0);
            x.player(1, 9, 7, 5);
            due(x.of(0, 11), 20 - 120);
            due(x.of(1, 10), 180 - 120);
            due(x.of(0, 31), 200);
            due(x.of(1, 30), 20);
            due(x.of(0, 51), 0);
            due(x.of(1, 50), 9);
            good(x, 3, "pillar 1 1;", 1);
            due(x.of(1, 10), 180 - 120 - 30);
            good(x, 0, "hears 1 when 1=2; slips 1 when 1=2; bends 1 when 1=2;", 3);
            due(x.of(1, 10), 30);
            due(x.of(1, 30), 20);
            due(x.of(1, 50), 9);
        });
        Bench.test("hears held to -999 .. 999, slips to 0 .. 1000, bends to 0 .. 50", () -> {
            Counted x = Scenes.three();
            String[] words = {"hears", "slips", "bends"};
            int[] whats = {11, 31, 51};
            int[] least = {-999, 0, 0};
            int[] most = {999, 1000, 50};
            for (int i = 0; i < 3; i++) {
                int[] told = {most[i] - 1, most[i], most[i] + 1, 9999};
                for (int v : told) {
                    good(x, 0, words[i] + " " + v + ";", 1);
                    due(x.of(0, whats[i]), Math.min(v, most[i]));
                }
                int[] below = {least[i] + 1, least[i], least[i] - 1, -9999};
                for (int v : below) {
                    good(x, 0, words[i] + " " + (v < 0 ? "0-" + -v : v) + ";", 1);
                    due(x.of(0, whats[i]), Math.max(v, least[i]));
                }
            }
        });
        Bench.test("note (NONE: -1): the other one's", () -> {
            Counted x = Scenes.three();
            good(x, 0, "hears note; slips 5 when note<0; slips 6 when note=0; slips 7;", 4);
            due(x.of(0, 11), -1);
            due(x.of(0, 31), 5);
            x.act(2, 1, 0);
            due(x.of(0, 11), 0);
            due(x.of(0, 31), 6);
            x.act(2, 1, 11);
            due(x.of(0, 11), 11);
            due(x.of(0, 31), 7);
            due(x.of(1, 10), -1);
        });
        Bench.test("far: how many SEATS they are apart (x and y together)", () -> {
            Counted x = Scenes.empty();
            x.player(1, 1, 0, 0);
            x.player(1, 1, 7, 5);
            x.player(1, 1, 1, 0);
            x.player(1, 1, 0, 1);
            good(x, 0, "hears far;", 1);
            due(x.of(0, 11), 12);
            due(x.of(1, 10), 12);
            due(x.of(0, 12), 1);
            due(x.of(0, 13), 1);
            due(x.of(2, 13), 2);
            // Both away from the first row and column.
            x.act(0, 0, 46);
            x.act(0, 2, 38);
            due(x.of(0, 11), 1);
            due(x.of(0, 12), 1);
            due(x.of(1, 12), 2);
            due(x.of(1, 10), 1);
        });
        Bench.test("pillars: how many stand in the rectangle whose corners their SEATS are", () -> {
            Counted x = Scenes.empty();
            x.player(1, 1, 1, 1);
            x.player(1, 1, 3, 3);
            x.player(1, 1, 3, 1);
            x.player(1, 1, 1, 3);
            good(x, 0, "hears pillars;", 1);
            // Beyond each side of it: none counts.
            good(x, 3, "pillar 0 1;pillar 4 1;pillar 1 0;pillar 1 4;pillar 0 3;pillar 4 3;pillar 3 0;pillar 3 4;pillar 0 0;pillar 4 4;", 10);
            due(x.of(0, 11), 0);
            due(x.of(1, 10), 0);
            due(x.of(2, 13), 0);
            due(x.of(3, 12), 0);
            // On its sides and within: all count.
            good(x, 3, "pillar 2 1;pillar 1 2;pillar 3 2;pillar 2 3;pillar 2 2;", 5);
            due(x.of(0, 11), 5);
            due(x.of(3, 12), 5);
            due(x.of(0, 12), 1);
            due(x.of(0, 13), 1);
            due(x.of(1, 12), 1);
            // The hall's corners, and a row's and a column's whole length.
            x.act(0, 0, 0);
            x.act(0, 1, 47);
            good(x, 3, "pillar 7 0;pillar 0 5;pillar 6 5;pillar 7 4;", 4);
            due(x.of(0, 11), 4);
            x.act(0, 1, 40 + 1);
            due(x.of(0, 11), 1);
        });
        Bench.test("off: how far their OFFS are apart", () -> {
            Counted x = Scenes.three();
            good(x, 0, "hears off;", 1);
            due(x.of(0, 11), 0);
            x.set(2, 0, -50);
            x.set(2, 1, 50);
            due(x.of(0, 11), 100);
            due(x.of(1, 10), 100);
            x.set(2, 1, -50);
            due(x.of(0, 11), 0);
            due(x.of(2, 10), 50);
        });
        Bench.test("sounding: how many PLAYERS sound", () -> {
            Counted x = Scenes.twelve();
            good(x, 0, "hears sounding;", 1);
            due(x.of(0, 11), 0);
            for (int i = 0; i < 12; i++) {
                x.act(2, 11 - i, i);
                due(x.of(0, 11), i + 1);
            }
            x.act(3, 0, 0);
            due(x.of(0, 11), 11);
        });
        Bench.test("beat: all of it, for each word, as it was when the BEAT began, behind its STAGE.", () -> {
            Counted x = Scenes.late();
            good(x, 0, "slips beat/10;", 1);
            due(x.of(0, 31), 999);
            Counted y = Scenes.two();
            good(y, 0, "slips 1000 when beat=0; slips 0;", 2);
            y.act(2, 0, 5);
            due(y.beats(1), 1);
            due(y.beats(1), 0);
            // Behind the stage: LOUD 1 is asked, and who was hushed does not sound.
            y = Scenes.three();
            good(y, 2, "at 0 loud 0 1; at 0 hush 1; at 0 tune 0;", 3);
            good(y, 0, "hears 1; bends 9; slips 1000 when loud=1 and sounding=1 and off=0; slips 0;", 4);
            y.set(2, 0, 30);
            y.act(2, 0, 5);
            y.act(2, 1, 6);
            due(y.beats(1), 2);
        });
        Bench.test("ear, wrong: his who listens; loud, note (NONE: -1): the other one's", () -> {
            Counted x = Scenes.three();
            good(x, 0, "hears 10*ear+loud;", 1);
            due(x.of(0, 12), 53);
            due(x.of(2, 10), 99);
            Counted y = Scenes.two();
            good(y, 0, "slips 1000;", 1);
            y.act(2, 0, 11);
            y.beats(1);
            good(y, 0, "hears wrong; slips wrong;", 2);
            due(y.of(1, 10), 1);
            due(y.of(0, 11), 0);
            due(y.of(1, 30), 1);
            due(y.of(0, 31), 0);
        });
    }

    public static void main(String[] args) throws IOException {
        Bench.open(args);
        tape();
        texts();
        lines();
        tokens();
        faults();
        grammar();
        law();
        Bench.close();
    }
}
