/** Promises 1 to 10: texts, courts and what is seen of them. */
public final class CourtsTest {
    private static final int BAD = DonkeyVerdicts.BAD, NO = DonkeyVerdicts.NO;
    private static final int FULL = DonkeyVerdicts.FULL, NONE = DonkeyVerdicts.NONE;

    public static void main(String[] args) {
        newObject();
        writing();
        faults();
        laying();
        places();
        ways();
        doors();
        beasts();
        signs();
        Check.finish();
    }

    private static void newObject() {
        DonkeyVerdicts x = new DonkeyVerdicts();
        int[] counts = {7, 4, 4, 8, 0, 4, 0, 0, 0, 3, 0, 0, 0};
        for (int what = 0; what < counts.length; what++) {
            Check.due("new: count(" + what + ")", x.count(what), counts[what]);
        }
        int[][] beasts = {{0, 1, 3}, {1, 2, 5}, {2, 1, 7}, {3, 3, 2}};
        for (int b = 0; b < 4; b++) {
            for (int what = 0; what < 3; what++) {
                Check.due("new: beast(" + b + ", " + what + ")", x.beast(b, what), beasts[b][what]);
            }
            Check.beast("new", x, b, beasts[b][2], 0, 0, NONE, 0, NONE);
        }
        int[][] doors = {{0, 3}, {1, 5}, {2, 4}, {3, 2}};
        for (int d = 0; d < 4; d++) {
            Check.due("new: door(" + d + ", 0)", x.door(d, 0), doors[d][0]);
            Check.due("new: door(" + d + ", 1)", x.door(d, 1), doors[d][1]);
        }
        Check.due("new: fault()", x.fault(), NONE);
        Check.due("new: lay()", x.lay(), NO);
        Check.due("new: undo()", x.undo(), NO);
        Check.due("new: back()", x.back(), NO);
    }

    private static void writing() {
        DonkeyVerdicts x = new DonkeyVerdicts();
        Check.due("write(31)", x.write(31), BAD);
        Check.due("write(127)", x.write(127), BAD);
        Check.due("write(-1)", x.write(-1), BAD);
        Check.due("write(65646)", x.write(65646), BAD);
        Check.due("count(12) behind bad letters", x.count(12), 0);
        Check.due("write(32)", x.write(32), 1);
        Check.due("write(126)", x.write(126), 2);
        for (int i = 3; i <= 200; i++) {
            Check.due("write, letter " + i, x.write('n'), i);
        }
        Check.due("write, letter 201", x.write('n'), FULL);
        Check.due("write(10) when full", x.write(10), BAD);
        Check.due("count(12) when full", x.count(12), 200);
        Check.due("wipe() when full", x.wipe(), 200);
        Check.due("wipe() when empty", x.wipe(), 0);
        Check.due("count(12) when wiped", x.count(12), 0);
        Check.due("write behind wipe", x.write('m'), 1);
    }

    private static void fault(String text, int want) {
        Check.due("fault() of " + text, Check.written(text).fault(), want);
    }

    private static void faults() {
        fault("", NONE);
        fault("n1;", NONE);
        fault("n8;n3;n08;w7,0,9;", NONE);
        fault("n0;", 0);
        fault("n9;", 0);
        fault("n3;m2;n3;", 6);
        fault("m4;m4;", NONE);
        fault("m5;", 0);
        fault("n8;m7;m8;", 6);
        fault("w0,4,1;w4,0,9;", NONE);
        fault("w0,5,1;", 0);
        fault("w5,0,1;", 0);
        fault("w1,1,1;", 0);
        fault("w0,1,0;", 0);
        fault("w0,1,10;", 0);
        fault("w0,1;", 0);
        fault("w0,1,2,3;", 0);
        fault("d3,4;", NONE);
        fault("d4,0;", 0);
        fault("d0,5;", 0);
        fault("d0;", 0);
        fault("d0,0;d0,0;d0,0;d0,0;d0,0;", 20);
        fault("b3,3,9;b0,1,0;b0,1,0;b0,1,0;b0,1,0;", NONE);
        fault("b3,3,9;b0,1,0;b0,1,0;b0,1,0;b0,1,0;b0,1,0;", 35);
        fault("b4,1,0;", 0);
        fault("b0,0,0;", 0);
        fault("b0,4,0;", 0);
        fault("b0,1,10;", 0);
        fault("c4,9;c4,0;", NONE);
        fault("c5,1;", 0);
        fault("c0,10;", 0);
        fault("c00,09;", NONE);
        fault("c000,1;", 0);
        fault("m1;m", 3);
        fault("m1;m2", 3);
        fault("m1;m2,", 3);
        fault("m1;m;", 3);
        fault("m1;m,2;", 3);
        fault("m1;m2,;", 3);
        fault("m1; m2;", 3);
        fault("m1;M2;", 3);
        fault("m1;;m2;", 3);
        fault("m1;x2;", 3);
        fault("m1;mm2;", 3);
        fault("m1;m-2;", 3);
        fault("1;", 0);
    }

    private static void laying() {
        DonkeyVerdicts x = new DonkeyVerdicts();
        x.send(0, 1, 0);
        x.pass(3);
        x.keep();
        String[] refused = {"", "n3;", "d0,1;", "b0,1,0;", "d0,1;b0,1,0;x", "d0,1;b0,1,0;n3;"};
        for (String text : refused) {
            Check.rewrite(x, text);
            Check.due("lay() of " + text, x.lay(), NO);
        }
        int[] counts = {7, 4, 4, 8, 3, 3, 1, 0, 0, 3, 2, 1, 15};
        for (int what = 0; what < counts.length; what++) {
            Check.due("refused: count(" + what + ")", x.count(what), counts[what]);
        }
        String text = "w0,1,5;w1,0,3;w1,2,1;c1,4;c1,2;m2;m2;d1,2;b2,2,9;b0,1,0;";
        Check.rewrite(x, text);
        Check.due("lay()", x.lay(), 2);
        int[] now = {5, 1, 2, 2, 0, 2, 0, 0, 0, 2, 0, 0, text.length()};
        for (int what = 0; what < now.length; what++) {
            Check.due("laid: count(" + what + ")", x.count(what), now[what]);
        }
        Check.due("laid: undo()", x.undo(), NO);
        Check.due("laid: back()", x.back(), NO);
        Check.due("laid: way(0, 1)", x.way(0, 1), 3);
        Check.due("laid: way(2, 3)", x.way(2, 3), NONE);
        Check.due("laid: place(1, 0)", x.place(1, 0), 2);
        Check.due("laid: place(2, 1)", x.place(2, 1), 1);
        Check.due("laid: place(4, 1)", x.place(4, 1), 0);
        Check.beast("laid", x, 0, 9, 0, 0, NONE, 0, NONE);
        Check.due("send", x.send(0, 1, 0), 0);
        x.pass(1);
        Check.due("lay() once more", x.lay(), 2);
        Check.beast("laid once more", x, 0, 9, 0, 0, NONE, 0, NONE);
    }

    private static void places() {
        DonkeyVerdicts x = new DonkeyVerdicts();
        Check.due("place(-1, 0)", x.place(-1, 0), BAD);
        Check.due("place(7, 0)", x.place(7, 0), BAD);
        Check.due("place(0, -1)", x.place(0, -1), BAD);
        Check.due("place(0, 3)", x.place(0, 3), BAD);
        Check.due("place(4, 0)", x.place(4, 0), 2);
        Check.due("place(4, 1)", x.place(4, 1), 1);
        Check.due("place(6, 1)", x.place(6, 1), 0);
        Check.due("place(0, 2)", x.place(0, 2), 4);
        x.send(0, 0, 0);
        Check.due("place(0, 2), one sent", x.place(0, 2), 4);
        x.pass(1);
        Check.due("place(0, 2), one on a way", x.place(0, 2), 3);
        Check.due("place(1, 2), one on a way", x.place(1, 2), 0);
        x.pass(1);
        Check.due("place(1, 2), one there", x.place(1, 2), 1);
    }

    private static void ways() {
        DonkeyVerdicts x = new DonkeyVerdicts();
        Check.due("way(3, 5)", x.way(3, 5), 5);
        Check.due("way(5, 3)", x.way(5, 3), 5);
        Check.due("way(0, 3)", x.way(0, 3), NONE);
        Check.due("way(3, 3)", x.way(3, 3), BAD);
        Check.due("way(-1, 3)", x.way(-1, 3), BAD);
        Check.due("way(3, 7)", x.way(3, 7), BAD);
        Check.due("way(7, 7)", x.way(7, 7), BAD);
    }

    private static void doors() {
        DonkeyVerdicts x = new DonkeyVerdicts();
        Check.due("door(-1, 0)", x.door(-1, 0), BAD);
        Check.due("door(4, 0)", x.door(4, 0), BAD);
        Check.due("door(0, -1)", x.door(0, -1), BAD);
        Check.due("door(0, 2)", x.door(0, 2), BAD);
        Check.due("door(2, 0)", x.door(2, 0), 2);
        Check.due("door(2, 1)", x.door(2, 1), 4);
    }

    private static void beasts() {
        DonkeyVerdicts x = new DonkeyVerdicts();
        Check.due("beast(-1, 0)", x.beast(-1, 0), BAD);
        Check.due("beast(4, 0)", x.beast(4, 0), BAD);
        Check.due("beast(0, -1)", x.beast(0, -1), BAD);
        Check.due("beast(0, 8)", x.beast(0, 8), BAD);
        x.send(2, 3, 1);
        Check.beast("sent", x, 2, 8, 1, 0, NONE, 0, 1);
        x.pass(1);
        Check.beast("hour 1", x, 2, 8, 1, 0, 1, 1, 1);
        x.pass(2);
        Check.beast("hour 3", x, 2, 8, 1, 1, 4, 3, 1);
        x.pass(3);
        // a carrot and a mare in 4: it waits for 3 hours
        Check.beast("hour 6", x, 2, 8, 1, 4, NONE, 3, 1);
        x.pass(3);
        Check.beast("hour 9", x, 2, 8, 1, 4, NONE, 0, 1);
        x.pass(1);
        Check.beast("hour 10", x, 2, 8, 1, 4, 5, 1, 1);
        x.pass(1);
        Check.beast("hour 11", x, 2, 8, 2, 5, NONE, 0, 1);
        x.home(2);
        Check.beast("called home", x, 2, 8, 3, 5, NONE, 0, NONE);
        x.pass(2);
        Check.beast("hour 13", x, 2, 8, 3, 4, NONE, 3, NONE);
        x.pass(9);
        Check.beast("hour 22", x, 2, 8, 0, 0, NONE, 0, NONE);
    }

    private static void signs() {
        DonkeyVerdicts x = new DonkeyVerdicts();
        Check.due("sign(-1, 0)", x.sign(-1, 0), BAD);
        Check.due("sign(4, 0)", x.sign(4, 0), BAD);
        Check.due("sign(0, 3), free", x.sign(0, 3), BAD);
        Check.due("sign(0, -1), free", x.sign(0, -1), BAD);
        Check.due("sign(0, 0), free", x.sign(0, 0), NO);
        Check.due("sign(0, 2), free", x.sign(0, 2), NO);
        x.send(0, 6, 2);
        x.send(1, 6, 2);
        x.send(2, 7, 2);
        x.send(3, 6, 2);
        int[] sent = {6, 1, 7, 6};
        for (int b = 0; b < 4; b++) {
            Check.due("sent: sign(" + b + ", 0)", x.sign(b, 0), sent[b]);
            Check.due("sent: sign(" + b + ", 1)", x.sign(b, 1), 0);
        }
        x.pass(24);
        // 0 and 2 eat in 4 and linger there; no carrot is left for 1; 3 is old
        int[][] signs = {{3, 1, 1}, {1, 0, 0}, {4, 1, 1}, {6, 0, 0}};
        for (int b = 0; b < 4; b++) {
            for (int what = 0; what < 3; what++) {
                Check.due("sign(" + b + ", " + what + ")", x.sign(b, what), signs[b][what]);
            }
        }
        x.home(0);
        Check.due("sign(0, 0), going home", x.sign(0, 0), NO);
        moods();
    }

    /** A mule turns the verdict by an uneven mood, a foal lifts it by one of 5 or more. */
    private static void moods() {
        for (int mood = 0; mood < 10; mood++) {
            DonkeyVerdicts x = Check.laid("w0,1,1;d0,1;b1,1," + mood + ";b2,1," + mood + ";");
            Check.due("send of mood " + mood, x.send(0, 2, 0), (mood + 1) % 10);
            x.send(1, 2, 0);
            Check.due("mule of mood " + mood, x.sign(0, 0), mood % 2 == 1 ? 5 : 2);
            Check.due("foal of mood " + mood, x.sign(1, 0), mood >= 5 ? 3 : 2);
        }
    }
}
