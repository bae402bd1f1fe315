/** Promises 27 to 31: balking, years, keeping, counting. */
public final class YearsTest {
    private static final int BAD = DonkeyVerdicts.BAD, NO = DonkeyVerdicts.NO;
    private static final int FULL = DonkeyVerdicts.FULL, NONE = DonkeyVerdicts.NONE;

    public static void main(String[] args) {
        wrongBalks();
        chances();
        balkingAmongOthers();
        years();
        keeping();
        counting();
        Check.finish();
    }

    private static void chance(String when, DonkeyVerdicts x, int n, int tenths, int above, int below) {
        String call = when + ": balks(0, " + n + ", " + tenths + ", ";
        Check.due(call + "0)", x.balks(0, n, tenths, 0), above);
        Check.due(call + "1)", x.balks(0, n, tenths, 1), below);
    }

    private static void wrongBalks() {
        DonkeyVerdicts x = new DonkeyVerdicts();
        int[][] wrong = {{-1, 0, 0, 0}, {4, 0, 0, 0}, {0, -1, 0, 0}, {0, 9, 0, 0},
            {0, 0, -1, 0}, {0, 0, 11, 0}, {0, 0, 0, -1}, {0, 0, 0, 2}};
        for (int[] w : wrong) {
            Check.due("balks(" + w[0] + ", " + w[1] + ", " + w[2] + ", " + w[3] + ")",
                x.balks(w[0], w[1], w[2], w[3]), BAD);
        }
    }

    private static void chances() {
        DonkeyVerdicts x = Check.laid("w0,1,2;d0,1;b3,1,0;");
        chance("free", x, 8, 0, 0, 1);
        x.send(0, 3, 0);
        chance("going", x, 0, 0, 0, 1);
        chance("going", x, 1, 0, 0, 1);
        chance("going", x, 2, 0, 1, 1);
        chance("going", x, 2, 5, 1, 4);
        chance("going", x, 2, 3, 49, 100);
        chance("going", x, 3, 5, 1, 2);
        // 2 of 3: 3 * .04 * .8 and .008
        chance("going", x, 3, 8, 13, 125);
        chance("going", x, 8, 10, 0, 1);
        // 1 less .9^8 and 8 * .1 * .9^7
        chance("going", x, 8, 9, 18689527, 100000000);
        Check.due("nothing changed", x.count(4), 0);
        x.pass(2);
        chance("standing", x, 0, 10, 1, 1);
        chance("standing", x, 8, 10, 1, 1);
        x.home(0);
        chance("going home", x, 8, 0, 0, 1);
    }

    /** 1 eats the only carrot if 0 balks first, so that 0 does not wait for it. */
    private static void balkingAmongOthers() {
        DonkeyVerdicts x = Check.laid("w0,1,1;w1,2,1;d0,2;b1,1,0;b1,1,0;c1,1;");
        x.send(0, 3, 0);
        x.send(1, 3, 0);
        chance("with 1", x, 2, 5, 0, 1);
        // go, wait, go: 1 of 8; or balk, go, go: 1 of 8
        chance("with 1", x, 3, 5, 1, 4);
        chance("with 1", x, 3, 0, 1, 1);
    }

    private static void years() {
        DonkeyVerdicts x = new DonkeyVerdicts();
        int[][] wrong = {{-1, 1, 0}, {10000, 1, 0}, {0, 0, 0}, {0, 61, 0}, {0, 1, -1}, {0, 1, 2}};
        for (int[] w : wrong) {
            Check.due("year(" + w[0] + ", " + w[1] + ", " + w[2] + ")", x.year(w[0], w[1], w[2]), BAD);
        }
        // the first draw of z 0 is 1: beast 0 is sent, and does not stand so soon
        Check.due("year(0, 1, 0)", x.year(0, 1, 0), 0);
        Check.due("year(5, 60, 0)", x.year(5, 60, 0), 1);
        Check.due("year(5, 60, 1)", x.year(5, 60, 1), 3);
        Check.due("year(9999, 60, 0)", x.year(9999, 60, 0), new Model().year(9999, 60, 0));
        Check.due("year(9999, 60, 1)", x.year(9999, 60, 1), new Model().year(9999, 60, 1));
        Check.due("nothing changed", x.count(4) + x.count(6) + x.count(10), 0);
        DonkeyVerdicts y = Check.laid("d0,0;b3,1,0;");
        // sent with the first draw, which is 1: it stands in the court behind hour 1
        Check.due("year(0, 1, 0), court", y.year(0, 1, 0), 1);
        Check.due("year(0, 1, 1), court", y.year(0, 1, 1), 0);
        // x 7920: its square is 22803 modulo 65521, 3 modulo 8: called home, if it stands
        y.send(0, 6, 0);
        Check.due("year(1, 1, 1), sent", y.year(1, 1, 1), 6);
        y.pass(1);
        Check.due("year(1, 1, 0), called home", y.year(1, 1, 0), 0);
        // x 15839: 59533 modulo 65521, 5 modulo 8: nothing
        Check.due("year(2, 1, 0), standing", y.year(2, 1, 0), 1);
        Check.due("year(2, 1, 1), standing", y.year(2, 1, 1), 6);
    }

    private static void keeping() {
        DonkeyVerdicts x = Check.laid("w0,1,1;d0,1;b0,1,3;c1,2;");
        Check.due("back(), none", x.back(), NO);
        Check.due("keep()", x.keep(), 1);
        x.send(0, 5, 0);
        x.pass(1);
        Check.due("keep()", x.keep(), 2);
        Check.due("count(10) behind keep", x.count(10), 2);
        x.home(0);
        x.carrots(0, 7);
        x.pass(5);
        Check.due("keep(), full", x.keep(), FULL);
        Check.due("count(11), full", x.count(11), 2);
        Check.due("undo()", x.undo(), 4);
        Check.due("count(11) behind undo", x.count(11), 2);
        Check.due("back()", x.back(), 1);
        Check.beast("back", x, 0, 4, 2, 1, NONE, 0, 0);
        Check.due("sign(0, 0)", x.sign(0, 0), 4);
        Check.due("count(4)", x.count(4), 1);
        Check.due("count(9)", x.count(9), 1);
        Check.due("count(10)", x.count(10), 0);
        Check.due("undo() behind back", x.undo(), NO);
        Check.due("keep() once more", x.keep(), 2);
        Check.due("back()", x.back(), 1);
        Check.due("back()", x.back(), 0);
        Check.beast("back at first", x, 0, 3, 0, 0, NONE, 0, NONE);
        Check.due("count(9)", x.count(9), 2);
        Check.due("back(), none left", x.back(), NO);
        Check.due("lay() forgets", keptAndLaid().count(11), 0);
    }

    private static DonkeyVerdicts keptAndLaid() {
        DonkeyVerdicts x = Check.laid("w0,1,1;d0,1;b0,1,3;c1,2;");
        x.keep();
        x.lay();
        return x;
    }

    private static void counting() {
        DonkeyVerdicts x = new DonkeyVerdicts();
        Check.due("count(-1)", x.count(-1), BAD);
        Check.due("count(13)", x.count(13), BAD);
        x.write('n');
        x.send(0, 1, 3);
        x.send(2, 1, 3);
        x.send(3, 1, 3);
        x.pass(6);
        x.home(0);
        x.keep();
        // 0 has eaten in 2, and stands since hour 5, as 2 does; 3 goes
        int[] counts = {7, 4, 4, 8, 6, 1, 1, 1, 1, 2, 5, 1, 1};
        for (int what = 0; what < counts.length; what++) {
            Check.due("count(" + what + ")", x.count(what), counts[what]);
        }
    }
}
