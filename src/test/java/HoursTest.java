/** Promises 11 to 15: sending, hours, calling home, carrots, undoing. */
public final class HoursTest {
    private static final int BAD = DonkeyVerdicts.BAD, NO = DonkeyVerdicts.NO;
    private static final int NONE = DonkeyVerdicts.NONE;

    public static void main(String[] args) {
        sending();
        passing();
        paths();
        courtDoor();
        eatingInTurn();
        eatingOnTheWayHome();
        reading();
        carrots();
        undoing();
        Check.finish();
    }

    private static void sending() {
        DonkeyVerdicts x = Check.laid("n3;w0,1,1;d0,1;d0,2;b0,1,9;b0,1,0;");
        Check.due("send(-1, 0, 0)", x.send(-1, 0, 0), BAD);
        Check.due("send(2, 0, 0)", x.send(2, 0, 0), BAD);
        Check.due("send(0, -1, 0)", x.send(0, -1, 0), BAD);
        Check.due("send(0, 8, 0)", x.send(0, 8, 0), BAD);
        Check.due("send(0, 0, -1)", x.send(0, 0, -1), BAD);
        Check.due("send(0, 0, 2)", x.send(0, 0, 2), BAD);
        Check.due("send(0, 0, 1), no way", x.send(0, 0, 1), NO);
        Check.beast("not sent", x, 0, 9, 0, 0, NONE, 0, NONE);
        Check.due("count(10), not sent", x.count(10), 0);
        Check.due("send(0, 7, 0)", x.send(0, 7, 0), 0);
        Check.due("send(0, 7, 0), going", x.send(0, 7, 0), NO);
        Check.due("send(0, 8, 0), going", x.send(0, 8, 0), BAD);
        x.pass(1);
        Check.due("send(0, 7, 0), standing", x.send(0, 7, 0), NO);
        x.home(0);
        Check.due("send(0, 7, 0), going home", x.send(0, 7, 0), NO);
        x.pass(1);
        Check.due("send(0, 7, 0), free again", x.send(0, 7, 0), 1);
        Check.due("send(1, 0, 0)", x.send(1, 0, 0), 1);
    }

    private static void passing() {
        DonkeyVerdicts x = new DonkeyVerdicts();
        Check.due("pass(0)", x.pass(0), BAD);
        Check.due("pass(25)", x.pass(25), BAD);
        Check.due("pass(-1)", x.pass(-1), BAD);
        Check.due("count(4)", x.count(4), 0);
        Check.due("pass(24)", x.pass(24), 24);
        Check.due("pass(1)", x.pass(1), 25);
        Check.due("count(4)", x.count(4), 25);
    }

    private static void paths() {
        // both ways to 3 take 4: the next place is the lowest, there and back
        DonkeyVerdicts x = Check.laid("w0,2,1;w2,3,3;w0,1,2;w1,3,2;w0,3,5;d0,3;b3,2,0;");
        x.send(0, 5, 0);
        x.pass(4);
        Check.beast("over 1", x, 0, 1, 1, 1, NONE, 0, 0);
        x.pass(1);
        Check.beast("behind 1", x, 0, 1, 1, 1, 3, 3, 0);
        x.pass(3);
        Check.beast("there", x, 0, 1, 2, 3, NONE, 0, 0);
        x.home(0);
        x.pass(4);
        Check.beast("back over 1", x, 0, 1, 3, 1, NONE, 0, NONE);
        x.pass(4);
        Check.beast("back", x, 0, 1, 0, 0, NONE, 0, NONE);
    }

    private static void courtDoor() {
        DonkeyVerdicts x = Check.laid("d3,0;b0,3,0;c0,3;m0;");
        Check.due("send to the court", x.send(0, 7, 0), 1);
        Check.beast("sent to the court", x, 0, 1, 1, 0, NONE, 0, 0);
        x.pass(1);
        Check.beast("in the court", x, 0, 1, 2, 0, NONE, 0, 0);
        Check.due("place(0, 0)", x.place(0, 0), 3);
        Check.due("sign(0, 0)", x.sign(0, 0), 7);
        Check.due("home(0)", x.home(0), 3);
        Check.beast("called home", x, 0, 1, 3, 0, NONE, 0, NONE);
        x.pass(1);
        Check.beast("free", x, 0, 1, 0, 0, NONE, 0, NONE);
        Check.due("place(0, 0)", x.place(0, 0), 3);
    }

    private static void eatingInTurn() {
        // one carrot in 1: the lowest eats it, the other goes on at once
        DonkeyVerdicts x = Check.laid("w0,1,1;w1,2,1;d0,2;b1,1,0;b0,1,0;b3,1,0;c1,1;");
        x.send(2, 7, 0);
        x.send(1, 7, 0);
        x.send(0, 7, 0);
        x.pass(1);
        Check.beast("eats", x, 0, 1, 1, 1, NONE, 1, 0);
        Check.beast("finds none", x, 1, 1, 1, 1, NONE, 0, 0);
        x.carrots(2, 9);
        x.pass(1);
        Check.beast("waits", x, 0, 1, 1, 1, NONE, 0, 0);
        Check.beast("stands", x, 1, 1, 2, 2, NONE, 0, 0);
        Check.beast("stands, old", x, 2, 1, 2, 2, NONE, 0, 0);
        x.pass(1);
        int[] signs = {5, 6, 7};
        for (int b = 0; b < 3; b++) {
            Check.due("sign(" + b + ", 0)", x.sign(b, 0), signs[b]);
        }
        Check.due("place(2, 0)", x.place(2, 0), 7);
        x.pass(24);
        Check.due("place(2, 0), later", x.place(2, 0), 7);
    }

    private static void eatingOnTheWayHome() {
        DonkeyVerdicts x = Check.laid("w0,1,1;w1,2,1;d0,2;b0,1,0;c0,2;m1;");
        x.send(0, 7, 0);
        x.pass(4);
        Check.beast("there", x, 0, 1, 2, 2, NONE, 0, 0);
        Check.due("home", x.home(0), 5);
        x.carrots(1, 1);
        x.pass(1);
        Check.beast("in 1", x, 0, 1, 3, 1, NONE, 3, NONE);
        Check.due("place(1, 0)", x.place(1, 0), 0);
        x.pass(3);
        Check.beast("waited", x, 0, 1, 3, 1, NONE, 0, NONE);
        x.pass(1);
        Check.beast("home", x, 0, 1, 0, 0, NONE, 0, NONE);
        Check.due("place(0, 0)", x.place(0, 0), 1);
        x.send(0, 7, 0);
        Check.due("sign(0, 1), sent anew", x.sign(0, 1), 0);
        Check.due("sign(0, 2), sent anew", x.sign(0, 2), 0);
    }

    /** What each kind of door reads of each sign. */
    private static void reading() {
        for (int v = 0; v < 8; v++) {
            DonkeyVerdicts x = Check.laid("w0,1,1;d0,1;d1,1;d2,1;d3,1;b3,1,0;b3,1,0;b3,1,0;b3,1,0;");
            int[] read = {v, v / 2 * 2, v < 4 ? 4 : v, v / 2};
            for (int d = 0; d < 4; d++) {
                x.send(d, v, d);
                Check.due("home(" + d + "), going", x.home(d), NO);
            }
            x.pass(1);
            for (int d = 0; d < 4; d++) {
                Check.due("home(" + d + ") of " + v, x.home(d), read[d]);
                Check.due("home(" + d + "), going home", x.home(d), NO);
            }
            Check.due("home(4)", x.home(4), BAD);
            Check.due("home(-1)", x.home(-1), BAD);
        }
        Check.due("home(0), free", new DonkeyVerdicts().home(0), NO);
    }

    private static void carrots() {
        DonkeyVerdicts x = new DonkeyVerdicts();
        Check.due("carrots(-1, 0)", x.carrots(-1, 0), BAD);
        Check.due("carrots(7, 0)", x.carrots(7, 0), BAD);
        Check.due("carrots(0, -1)", x.carrots(0, -1), BAD);
        Check.due("carrots(0, 10)", x.carrots(0, 10), BAD);
        Check.due("count(10)", x.count(10), 0);
        Check.due("carrots(4, 9)", x.carrots(4, 9), 2);
        Check.due("carrots(4, 0)", x.carrots(4, 0), 9);
        Check.due("carrots(4, 0)", x.carrots(4, 0), 0);
        Check.due("place(4, 0)", x.place(4, 0), 0);
        Check.due("count(9)", x.count(9), 1);
        Check.due("count(10)", x.count(10), 3);
    }

    private static void undoing() {
        DonkeyVerdicts x = Check.laid("w0,1,2;d0,1;b0,1,9;c1,2;");
        Check.due("undo(), nothing", x.undo(), NO);
        x.send(0, 5, 0);
        x.pass(2);
        x.home(0);
        x.carrots(0, 4);
        Check.due("count(10)", x.count(10), 4);
        Check.due("undo() of carrots", x.undo(), 3);
        Check.due("place(0, 0)", x.place(0, 0), 0);
        Check.due("undo() of home", x.undo(), 2);
        Check.beast("undone home", x, 0, 0, 2, 1, NONE, 0, 0);
        Check.due("sign(0, 0)", x.sign(0, 0), 4);
        Check.due("undo() of pass", x.undo(), 1);
        Check.beast("undone pass", x, 0, 0, 1, 0, NONE, 0, 0);
        Check.due("place(1, 0)", x.place(1, 0), 2);
        Check.due("count(4)", x.count(4), 0);
        Check.due("undo() of send", x.undo(), 0);
        Check.beast("undone send", x, 0, 9, 0, 0, NONE, 0, NONE);
        Check.due("undo(), nothing more", x.undo(), NO);
        lastEight();
    }

    private static void lastEight() {
        DonkeyVerdicts x = new DonkeyVerdicts();
        for (int i = 0; i < 12; i++) {
            x.pass(1);
        }
        x.pass(0);
        x.home(0);
        Check.due("count(10) behind 12", x.count(10), 8);
        for (int left = 7; left >= 0; left--) {
            Check.due("undo()", x.undo(), left);
            Check.due("count(4)", x.count(4), 4 + left);
        }
        Check.due("undo(), none left", x.undo(), NO);
        Check.due("count(4)", x.count(4), 4);
        Check.due("carrots", x.carrots(0, 3), 0);
        Check.due("undo() once more", x.undo(), 0);
    }
}
