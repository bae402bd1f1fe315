import java.util.function.ToIntFunction;

/** The edges of promises 25 to 31: what was told, balking, years, keeping, counting. */
final class YearEdges {
    private static final int BAD = DonkeyVerdicts.BAD, NO = DonkeyVerdicts.NO;
    private static final int FULL = DonkeyVerdicts.FULL, NONE = DonkeyVerdicts.NONE;
    private static final int MIN = Integer.MIN_VALUE, MAX = Integer.MAX_VALUE;
    private static final int[] NO_BEASTS = {-1, 5, 256, 1 << 30, MIN, MAX};
    private static final int[] NO_DOORS = {-1, 4, 256, 1 << 30, MIN, MAX};
    private static final int[] NO_VERDICTS = {-1, 8, 16, 256, MIN, MAX};

    private YearEdges() { }

    static void run() {
        wrongTold();
        toldBySign();
        toldByWay();
        wrongWho();
        who();
        whoWithin99();
        wrongBalks();
        balksOfEachState();
        balksByTenths();
        balksOfLongWays();
        balkingWhileWaiting();
        wrongYears();
        yearByOneDraw();
        firstAndLastYears();
        yearsOfOneBeast();
        keeping();
        nothingKept();
        backAgain();
        wrongCounts();
        counts();
    }

    private static void bad(String call, ToIntFunction<DonkeyVerdicts> asked) {
        Busy.refused(call, BAD, asked);
    }

    private static void wrongTold() {
        Check.holds(25, "TOLD, as bits. BAD; NO: FREE, GOES HOME.");
        for (int none : NO_BEASTS) {
            bad("told(" + none + ", 0)", x -> x.told(none, 0));
        }
        for (int none : NO_VERDICTS) {
            for (int b = 0; b < 5; b++) {
                int beast = b;
                bad("told(" + b + ", " + none + ")", x -> x.told(beast, none));
            }
        }
        for (int s : new int[] {0, 7}) {
            Busy.refused("told(2, " + s + "), free", NO, x -> x.told(2, s));
            Busy.refused("told(4, " + s + "), going home", NO, x -> x.told(4, s));
            for (int b : new int[] {0, 1, 3}) {
                Busy.unchanged("told(" + b + ", " + s + ")", x -> x.told(b, s));
            }
        }
    }

    /** Of beast 0: the verdicts of each sign. */
    private static void told(String when, DonkeyVerdicts x, int... want) {
        for (int s = 0; s < 8; s++) {
            Check.due(when + ": told(0, " + s + ")", x.told(0, s), want[s]);
        }
    }

    private static DonkeyVerdicts sent(String beast) {
        DonkeyVerdicts x = Check.laid("d3,0;" + beast);
        x.send(0, 3, 0);
        return x;
    }

    private static void toldBySign() {
        Check.holds(25, "TOLD of one that GOES or STANDS, s (0 to 7): VERDICTS (bits 0 to 7) with which, SENT as it was");
        told("donkey", sent("b0,1,9;"), 1, 2, 4, 8, 16, 32, 64, 128);
        told("old", sent("b3,1,9;"), 1, 2, 4, 8, 16, 32, 64, 128);
        told("mule of 8", sent("b1,1,8;"), 1, 2, 4, 8, 16, 32, 64, 128);
        told("mule of 9", sent("b1,1,9;"), 128, 64, 32, 16, 8, 4, 2, 1);
        told("foal of 4", sent("b2,1,4;"), 1, 2, 4, 8, 16, 32, 64, 128);
        told("foal of 5", sent("b2,1,5;"), 0, 1, 2, 4, 8, 16, 32, 192);
        DonkeyVerdicts x = sent("b2,1,9;");
        x.pass(1);
        told("foal of 9, standing", x, 0, 1, 2, 4, 8, 16, 32, 192);
    }

    private static void toldByWay() {
        Check.holds(25, "having EATEN, LINGERED as by now, its SIGN would be s now");
        DonkeyVerdicts x = Check.laid("n8;w0,1,1;w1,2,1;w2,3,1;w3,4,1;w4,5,1;d0,5;b0,1,0;c1,1;m2;c3,1;m3;c4,1;");
        x.send(0, 0, 0);
        told("sent", x, 1, 2, 4, 8, 16, 32, 64, 128);
        x.pass(1);
        told("1 less", x, 3, 4, 8, 16, 32, 64, 128, 0);
        x.pass(2);
        told("3 less", x, 15, 16, 32, 64, 128, 0, 0, 0);
        x.pass(3);
        told("6 less", x, 127, 128, 0, 0, 0, 0, 0, 0);
        x.pass(4);
        told("7 less", x, 255, 0, 0, 0, 0, 0, 0, 0);
        x.pass(2);
        told("7 less, standing", x, 255, 0, 0, 0, 0, 0, 0, 0);
        Check.due("count(7)", x.count(7), 1);
    }

    private static void wrongWho() {
        Check.holds(26, "WHO: how many (what = 0), the first (1; NONE). BAD.");
        for (int what = 0; what < 2; what++) {
            int w = what;
            for (int none : NO_DOORS) {
                bad("who(" + none + ", 0, " + w + ")", x -> x.who(none, 0, w));
            }
            for (int none : NO_VERDICTS) {
                bad("who(0, " + none + ", " + w + ")", x -> x.who(0, none, w));
            }
            Busy.unchanged("who(0, 7, " + w + ")", x -> x.who(0, 7, w));
        }
        for (int none : new int[] {-1, 2, MIN, MAX}) {
            bad("who(0, 7, " + none + ")", x -> x.who(0, 7, none));
            bad("who(2, 0, " + none + "), no way", x -> x.who(2, 0, none));
        }
        Busy.refused("who(2, 0, 1), no way", NONE, x -> x.who(2, 0, 1));
        Check.due("who(2, 0, 0), no way", Busy.made().who(2, 0, 0), 0);
    }

    private static void who() {
        Check.holds(26, "WHO for a DOOR, r (0 to 7): BEASTS that are FREE and VERDICTS such that, SENT so now alone, it would be READ as r: how many of both; the first (by the BEAST, then the VERDICT), as 10 times the BEAST and the VERDICT; none.");
        DonkeyVerdicts x = Check.laid("d0,0;d1,0;d2,0;d3,0;" + "b3,1,0;".repeat(5));
        int[][] many = {{5, 5, 5, 5, 5, 5, 5, 5}, {10, 0, 10, 0, 10, 0, 10, 0}, {0, 0, 0, 0, 25, 5, 5, 5}, {10, 10, 10, 10, 0, 0, 0, 0}};
        int[][] first = {{0, 1, 2, 3, 4, 5, 6, 7}, {0, NONE, 2, NONE, 4, NONE, 6, NONE},
            {NONE, NONE, NONE, NONE, 0, 5, 6, 7}, {0, 2, 4, 6, NONE, NONE, NONE, NONE}};
        for (int d = 0; d < 4; d++) {
            for (int r = 0; r < 8; r++) {
                Check.due("who(" + d + ", " + r + ", 0)", x.who(d, r, 0), many[d][r]);
                Check.due("who(" + d + ", " + r + ", 1)", x.who(d, r, 1), first[d][r]);
            }
        }
        for (int b = 0; b < 5; b++) {
            Check.due("who(0, 7, 1), lower ones gone", x.who(0, 7, 1), 10 * b + 7);
            Check.due("who(0, 7, 0), lower ones gone", x.who(0, 7, 0), 5 - b);
            x.send(b, 0, 0);
        }
        Check.due("who(0, 7, 1), all gone", x.who(0, 7, 1), NONE);
        Check.due("who(0, 7, 0), all gone", x.who(0, 7, 0), 0);
        // 7 less of whatever was told: 40 ways to be read as 0
        DonkeyVerdicts y = Check.laid("n8;w0,1,1;w1,2,1;w2,3,1;d0,3;" + "b0,1,0;".repeat(5) + "c1,1;m1;m2;m3;");
        Check.due("who(0, 0, 0), all of all", y.who(0, 0, 0), 40);
        Check.due("who(0, 0, 1), all of all", y.who(0, 0, 1), 0);
        Check.due("who(0, 1, 0), none of all", y.who(0, 1, 0), 0);
        Check.due("who(0, 1, 1), none of all", y.who(0, 1, 1), NONE);
        DonkeyVerdicts z = Check.laid("d0,0;b1,1,1;b2,1,5;");
        // the mule by 7, the foal by none; the mule by 0, the foal by 6 and 7
        Check.due("who(0, 0, 0)", z.who(0, 0, 0), 1);
        Check.due("who(0, 0, 1)", z.who(0, 0, 1), 7);
        Check.due("who(0, 7, 0)", z.who(0, 7, 0), 3);
        Check.due("who(0, 7, 1)", z.who(0, 7, 1), 0);
    }

    private static void whoWithin99() {
        Check.holds(26, "it would be READ as r");
        DonkeyVerdicts x = Check.laid("w0,1,9;w1,2,9;w2,3,9;w3,4,6;d0,4;b1,3,0;b3,3,0;");
        Check.due("who(0, 0, 0), 99 hours", x.who(0, 0, 0), 2);
        Check.due("who(0, 0, 1), 99 hours", x.who(0, 0, 1), 0);
        x.carrots(1, 1);
        Check.due("who(0, 0, 0), 100 hours of one", x.who(0, 0, 0), 1);
        Check.due("who(0, 0, 1), 100 hours of one", x.who(0, 0, 1), 10);
    }

    private static void wrongBalks() {
        Check.holds(27, "BALKS: above (part = 0), below (1). BAD.");
        for (int part = 0; part < 2; part++) {
            int p = part;
            for (int none : NO_BEASTS) {
                bad("balks(" + none + ", 0, 0, " + p + ")", x -> x.balks(none, 0, 0, p));
            }
            for (int none : new int[] {-1, 9, 256, MIN, MAX}) {
                bad("balks(0, " + none + ", 0, " + p + ")", x -> x.balks(0, none, 0, p));
            }
            for (int none : new int[] {-1, 11, 256, MIN, MAX}) {
                bad("balks(0, 0, " + none + ", " + p + ")", x -> x.balks(0, 0, none, p));
            }
            for (int b = 0; b < 5; b++) {
                int beast = b;
                Busy.unchanged("balks(" + b + ", 8, 5, " + p + ")", x -> x.balks(beast, 8, 5, p));
            }
        }
        for (int none : new int[] {-1, 2, MIN, MAX}) {
            bad("balks(0, 0, 0, " + none + ")", x -> x.balks(0, 0, 0, none));
        }
    }

    private static void chance(String when, DonkeyVerdicts x, int b, int n, int tenths, int above, int below) {
        String call = when + ": balks(" + b + ", " + n + ", " + tenths + ", ";
        Check.due(call + "0)", x.balks(b, n, tenths, 0), above);
        Check.due(call + "1)", x.balks(b, n, tenths, 1), below);
    }

    private static void balksOfEachState() {
        Check.holds(27, "the chance that it STANDS behind them, in lowest terms");
        DonkeyVerdicts x = Busy.made();
        for (int n = 0; n <= 8; n += 4) {
            for (int tenths = 0; tenths <= 10; tenths += 5) {
                chance("free", x, 2, n, tenths, 0, 1);
                chance("standing", x, 3, n, tenths, 1, 1);
                chance("going home", x, 4, n, tenths, 0, 1);
            }
        }
    }

    private static void balksByTenths() {
        Check.holds(27, "BALKS: in each of n (0 to 8) HOURS a BEAST stays as it is by x (0 to 10) of ten, all others go on");
        DonkeyVerdicts x = sent("b3,1,0;");
        // in lowest terms: 1 less x of ten
        int[] above = {1, 9, 4, 7, 3, 1, 2, 3, 1, 1, 0};
        int[] below = {1, 10, 5, 10, 5, 2, 5, 10, 5, 10, 1};
        for (int tenths = 0; tenths <= 10; tenths++) {
            chance("to the court", x, 0, 0, tenths, 0, 1);
            chance("to the court", x, 0, 1, tenths, above[tenths], below[tenths]);
        }
        // 1 less x of ten to the n
        long power = 1;
        for (int n = 1; n <= 8; n++) {
            power *= 10;
            chance("to the court", x, 0, n, 1, (int) power - 1, (int) power);
            chance("to the court", x, 0, n, 5, (1 << n) - 1, 1 << n);
            chance("to the court", x, 0, n, 0, 1, 1);
            chance("to the court", x, 0, n, 10, 0, 1);
        }
    }

    private static void balksOfLongWays() {
        Check.holds(27, "in each of n (0 to 8) HOURS");
        DonkeyVerdicts x = Check.laid("w0,1,8;w0,2,9;d0,1;d0,2;b3,1,0;b3,1,0;");
        x.send(0, 0, 0);
        x.send(1, 0, 1);
        chance("8 hours", x, 0, 7, 0, 0, 1);
        chance("8 hours", x, 0, 8, 0, 1, 1);
        chance("8 hours", x, 0, 8, 5, 1, 256);
        // .9 to the 8, .1 to the 8
        chance("8 hours", x, 0, 8, 1, 43046721, 100000000);
        chance("8 hours", x, 0, 8, 9, 1, 100000000);
        chance("9 hours", x, 1, 8, 0, 0, 1);
        x.pass(1);
        chance("9 hours, one gone", x, 1, 8, 0, 1, 1);
        chance("8 hours, one gone", x, 0, 8, 5, 9, 256);
    }

    private static void balkingWhileWaiting() {
        Check.holds(27, "a BEAST stays as it is");
        // on a way, in a place, waiting: each hour is one less, or none
        DonkeyVerdicts x = Check.laid("w0,1,1;w1,2,2;d0,2;b1,1,0;c1,1;");
        x.send(0, 0, 0);
        chance("4 hours", x, 0, 4, 5, 1, 16);
        x.pass(1);
        Check.due("beast(0, 6), waiting", x.beast(0, 6), 1);
        chance("3 hours, waiting", x, 0, 3, 5, 1, 8);
        chance("3 hours, waiting", x, 0, 2, 0, 0, 1);
        x.pass(1);
        chance("2 hours, in a place", x, 0, 2, 5, 1, 4);
        x.pass(1);
        chance("1 hour, on a way", x, 0, 1, 5, 1, 2);
        chance("1 hour, on a way", x, 0, 2, 5, 3, 4);
        // the other one goes on meanwhile and eats what there is
        DonkeyVerdicts y = Check.laid("w0,1,1;w1,2,1;d0,2;b1,1,0;b1,1,0;c1,1;");
        y.send(0, 0, 0);
        y.send(1, 0, 0);
        chance("0 eats if it goes", y, 0, 2, 5, 0, 1);
        chance("0 does not if it balks", y, 0, 3, 5, 1, 4);
        chance("1 never eats: it is behind 0", y, 1, 2, 5, 1, 4);
    }

    private static void wrongYears() {
        Check.holds(28, "A YEAR: STAND (what = 0), READ (1). BAD.");
        for (int what = 0; what < 2; what++) {
            int w = what;
            for (int none : new int[] {-1, 10000, 65536, MIN, MAX}) {
                bad("year(" + none + ", 1, " + w + ")", x -> x.year(none, 1, w));
            }
            for (int none : new int[] {0, -1, 61, 257, MIN, MAX}) {
                bad("year(0, " + none + ", " + w + ")", x -> x.year(0, none, w));
            }
            for (int z : new int[] {0, 9999}) {
                Busy.unchanged("year(" + z + ", 60, " + w + ")", x -> x.year(z, 60, w));
            }
        }
        for (int none : new int[] {-1, 2, MIN, MAX}) {
            bad("year(0, 1, " + none + ")", x -> x.year(0, 1, none));
        }
    }

    private static void year(String when, DonkeyVerdicts x, int z, int n, int stand, int read) {
        Check.due(when + ": year(" + z + ", " + n + ", 0)", x.year(z, n, 0), stand);
        Check.due(when + ": year(" + z + ", " + n + ", 1)", x.year(z, n, 1), read);
    }

    private static void yearByOneDraw() {
        Check.holds(28, "ahead of the k-th (0 first), with BEAST (DRAW by 8, cut) modulo as many as there are, if DRAW modulo 8 is 0 to 2, it is SENT with VERDICT (DRAW by 64, cut) modulo 8 to DOOR (DRAW by 512, cut) modulo as many, if 3, it is called home, if 4, CARROTS of PLACE (DRAW by 8, cut) modulo as many are (DRAW by 64, cut) modulo 10; each if it can be");
        DonkeyVerdicts free = Check.laid("d0,0;b3,1,0;");
        // draws 56728, 58977, 5042: 0, 1 and 2 modulo 8, verdicts 6, 1, 6
        year("sent", free, 5, 1, 1, 6);
        year("sent", free, 7, 1, 1, 1);
        year("sent", free, 16, 1, 1, 6);
        // draws 22803, 35404, 59533, 44670, 43735: 3 to 7 modulo 8
        for (int z : new int[] {1, 15, 2, 3, 4}) {
            year("not sent", free, z, 1, 0, 0);
        }
        DonkeyVerdicts standing = Check.laid("d0,0;b3,1,0;");
        standing.send(0, 5, 0);
        standing.pass(1);
        year("called home", standing, 1, 1, 0, 0);
        for (int z : new int[] {5, 7, 16, 15, 2, 3, 4}) {
            year("not called home", standing, z, 1, 1, 5);
        }
        yearByBeastAndDoor();
        yearByCarrots();
    }

    private static void yearByBeastAndDoor() {
        // draw 58977: 58977 by 8 is 7372, beast 2 of 5; by 512 is 115, door 3 of 4; verdict 1
        DonkeyVerdicts x = Check.laid("n3;w0,1,1;d0,2;d0,2;d0,2;d2,0;" + "b3,1,0;b3,1,0;b2,1,9;b3,1,0;b3,1,0;");
        year("the foal to the constable", x, 7, 1, 1, 4);
        x.send(2, 0, 3);
        x.pass(1);
        x.home(2);
        year("the foal is not free", x, 7, 1, 0, 0);
        DonkeyVerdicts y = Check.laid("n3;w0,1,1;d0,0;d0,0;d0,0;d2,2;" + "b3,1,0;".repeat(5));
        year("no way to door 3", y, 7, 1, 0, 0);
        // draws 56728 and 53177: by 512 these are 110 and 103, doors 2 and 3 of 4; beasts 1 and 2 of 5; verdict 6
        DonkeyVerdicts w = Check.laid("n3;w0,1,1;d0,2;d0,2;d0,0;d0,2;" + "b3,1,0;b3,1,0;b3,1,0;b3,1,0;b3,1,0;");
        year("door 2", w, 5, 1, 1, 6);
        year("door 3, no way", w, 55, 1, 0, 0);
        // draw 22803: 22803 by 8 is 2850, beast 0 of 5 is called home, 1 stays
        DonkeyVerdicts z = Check.laid("d0,0;" + "b3,1,0;".repeat(5));
        z.send(0, 7, 0);
        z.send(1, 6, 0);
        z.pass(1);
        year("0 is called home", z, 1, 1, 1, 6);
        // draw 1 of z 0: beast 0, verdict 0, door 0; a plain one that stands reads more in sum
        year("one more stands", z, 0, 1, 2, 13);
    }

    private static void yearByCarrots() {
        // draw 5836 of z 39: 4 modulo 8; by 8 is 729, place 1 of 8; by 64 is 91, 1 carrot
        DonkeyVerdicts x = Check.laid("n8;w0,1,1;d0,1;b0,1,0;b0,1,0;");
        x.send(0, 5, 0);
        year("laid ahead of the hour", x, 39, 1, 1, 4);
        x.send(1, 5, 0);
        year("one for two", x, 39, 1, 2, 9);
        // 9 in 1, taken up but for one
        x.carrots(1, 9);
        year("one of 9 is left", x, 39, 1, 2, 9);
        // draw 59533 is none of these: each eats one of 9
        year("9 are left", x, 2, 1, 2, 8);
        // draws 35404 and 8844: both of place 1 of 8; by 64 these are 553 and 138, 3 and 8 carrots
        DonkeyVerdicts y = Check.laid("n8;w0,1,1;w0,4,1;d0,1;d0,4;" + "b0,1,0;".repeat(5));
        for (int b = 0; b < 5; b++) {
            y.send(b, 5, 0);
        }
        year("3 for five", y, 15, 1, 5, 22);
        year("8 for five", y, 60, 1, 5, 20);
        // draw 59533 is none of these: with five beasts and carrots alone none stands, and nothing is read
        DonkeyVerdicts w = Check.laid("n8;w0,1,1;d0,1;c1,2;c6,9;" + "b0,1,0;".repeat(5));
        year("none sent", w, 2, 1, 0, 0);
        // draw 56996: by 8 it is 7124, place 4 of 8; by 64 it is 890, no carrots
        DonkeyVerdicts z = Check.laid("n8;w0,4,1;d0,4;b0,1,0;c4,9;");
        z.send(0, 5, 0);
        year("9 in 4", z, 2, 1, 1, 4);
        year("all of 9 taken up", z, 94, 1, 1, 5);
    }

    private static void firstAndLastYears() {
        Check.holds(28, "A YEAR by z (0 to 9999) of n (1 to 60) HOURS from now on");
        for (int z : new int[] {0, 1, 9998, 9999}) {
            for (int n : new int[] {1, 2, 59, 60}) {
                for (int what = 0; what < 2; what++) {
                    Check.due("year(" + z + ", " + n + ", " + what + ")", new DonkeyVerdicts().year(z, n, what),
                        new Model().year(z, n, what));
                }
            }
        }
        DonkeyVerdicts x = Check.laid("w0,1,1;d0,1;b3,1,0;");
        x.send(0, 7, 0);
        // draws of z 2: 59533 is none; the hour itself goes by
        year("an hour", x, 2, 1, 1, 7);
    }

    /** One old beast, one door in the court: the draws alone decide, and they are drawn anew here. */
    private static void yearsOfOneBeast() {
        Check.holds(28, "DRAW being (x times x) modulo 65521, x 7919 z, 6151 k and 1 together: how many STAND then; what is READ of these in sum.");
        DonkeyVerdicts x = Check.laid("n1;d0,0;b3,1,0;");
        for (int z = 0; z <= 9999; z += z < 9 || z >= 9989 ? 1 : 499) {
            int state = 0;
            int verdict = 0;
            for (int k = 0; k < 60; k++) {
                long sum = 7919L * z + 6151L * k + 1;
                long draw = sum * sum % 65521;
                if (draw % 8 < 3 && state == 0) {
                    state = 1;
                    verdict = (int) (draw / 64 % 8);
                } else if (draw % 8 == 3 && state == 2) {
                    state = 3;
                }
                state = state == 1 ? 2 : state == 3 ? 0 : state;
                if (k == 0 || k > 56) {
                    year("one beast", x, z, k + 1, state == 2 ? 1 : 0, state == 2 ? verdict : 0);
                }
            }
        }
    }

    private static void keeping() {
        Check.holds(29, "KEPT: how many. FULL.");
        DonkeyVerdicts x = new DonkeyVerdicts();
        Check.due("keep()", x.keep(), 1);
        Check.due("count(11)", x.count(11), 1);
        Check.due("keep() once more", x.keep(), 2);
        Check.due("count(11)", x.count(11), 2);
        Check.due("keep(), full", x.keep(), FULL);
        Check.due("keep(), full still", x.keep(), FULL);
        Check.due("count(11), full", x.count(11), 2);
        Look.refused("keep(), full", FULL, Busy::full, DonkeyVerdicts::keep);
        Check.holds(29, "KEPT is all as it stands: 2 at most.");
        DonkeyVerdicts y = Busy.made();
        Check.due("keep()", y.keep(), 2);
        y.pass(24);
        y.home(0);
        y.send(2, 0, 0);
        y.carrots(5, 0);
        Check.due("back()", y.back(), 1);
        Check.beast("kept, waits", y, 0, 0, 1, 1, NONE, 1, 1);
        Check.beast("kept, on a way", y, 1, 6, 1, 0, 1, 2, 1);
        Check.beast("kept, free", y, 2, 7, 0, 0, NONE, 0, NONE);
        Check.beast("kept, stands", y, 3, 3, 2, 0, NONE, 0, 3);
        Check.beast("kept, goes home", y, 4, 1, 3, 1, NONE, 0, NONE);
        Check.due("kept, place(5, 0)", y.place(5, 0), 9);
        Check.due("kept, place(1, 0)", y.place(1, 0), 1);
        Check.due("kept, count(4)", y.count(4), 2);
        Check.due("keep() again", y.keep(), 2);
        Check.due("keep(), full again", y.keep(), FULL);
    }

    private static void nothingKept() {
        Check.holds(30, "As KEPT last: how many are left; nothing is UNDONE then. NO.");
        Look.refused("back() of nothing", NO, DonkeyVerdicts::new, DonkeyVerdicts::back);
        Look.refused("back() of nothing, with much to undo", NO, YearEdges::muchDone, DonkeyVerdicts::back);
        Look.refused("back() of all, and once more", NO, YearEdges::allBack, DonkeyVerdicts::back);
    }

    private static DonkeyVerdicts muchDone() {
        DonkeyVerdicts x = new DonkeyVerdicts();
        for (int i = 0; i < 9; i++) {
            x.carrots(0, i);
        }
        return x;
    }

    private static DonkeyVerdicts allBack() {
        DonkeyVerdicts x = Busy.full();
        Check.due("back()", x.back(), 1);
        Check.due("back() once more", x.back(), 0);
        x.carrots(0, 5);
        return x;
    }

    private static void backAgain() {
        Check.holds(30, "As KEPT last: how many are left; nothing is UNDONE then.");
        DonkeyVerdicts x = Check.laid("w0,1,1;d0,1;b0,1,9;c1,3;");
        x.carrots(0, 1);
        x.keep();
        x.send(0, 7, 0);
        x.pass(1);
        x.keep();
        x.home(0);
        x.pass(24);
        x.carrots(1, 9);
        Check.due("back(), the last", x.back(), 1);
        Check.beast("as it stood", x, 0, 0, 2, 1, NONE, 0, 0);
        Check.due("sign(0, 0)", x.sign(0, 0), 6);
        Check.due("place(1, 0)", x.place(1, 0), 2);
        Check.due("count(4)", x.count(4), 1);
        Check.due("count(10)", x.count(10), 0);
        Check.due("undo()", x.undo(), NO);
        Check.due("back(), the first", x.back(), 0);
        Check.beast("as it stood first", x, 0, 9, 0, 0, NONE, 0, NONE);
        Check.due("place(0, 0)", x.place(0, 0), 1);
        Check.due("place(1, 0)", x.place(1, 0), 3);
        Check.due("count(4)", x.count(4), 0);
        Check.due("back(), none", x.back(), NO);
        x.carrots(0, 7);
        Check.due("undo() behind back()", x.undo(), 0);
        Check.due("place(0, 0)", x.place(0, 0), 1);
        // kept, back, kept, by turns: each time what was last
        DonkeyVerdicts y = new DonkeyVerdicts();
        y.keep();
        for (int i = 1; i <= 9; i++) {
            y.carrots(0, i);
            Check.due("keep()", y.keep(), 2);
            y.carrots(0, 0);
            Check.due("back()", y.back(), 1);
            Check.due("place(0, 0)", y.place(0, 0), i);
        }
        Check.due("back()", y.back(), 0);
        Check.due("place(0, 0)", y.place(0, 0), 0);
    }

    private static void wrongCounts() {
        Check.holds(31, "12 letters of THE TEXT. BAD.");
        for (int none : new int[] {-1, 13, 256, MIN, MAX}) {
            bad("count(" + none + ")", x -> x.count(none));
        }
        for (int what = 0; what < 13; what++) {
            int w = what;
            Busy.unchanged("count(" + what + ")", x -> x.count(w));
        }
    }

    private static void counts(String when, DonkeyVerdicts x, int... want) {
        for (int what = 0; what < want.length; what++) {
            Check.due(when + ": count(" + what + ")", x.count(what), want[what]);
        }
    }

    private static void counts() {
        Check.holds(31, "How many: 0 PLACES, 1 DOORS, 2 BEASTS, 3 WAYS, 4 hours gone by, 5 FREE, 6 GO, 7 STAND, 8 GO HOME, 9 CARROTS in all, 10 that can be UNDONE, 11 KEPT, 12 letters of THE TEXT.");
        counts("new", new DonkeyVerdicts(), 7, 4, 4, 8, 0, 4, 0, 0, 0, 3, 0, 0, 0);
        // of the 2 carrots in 1 one is eaten by 0, 9 are laid in 5
        counts("busy", Busy.made(), 8, 4, 5, 3, 2, 1, 2, 1, 1, 10, 7, 1, 90);
        DonkeyVerdicts last = Check.laid("n8;w0,7,1;d0,7;" + "b3,1,0;".repeat(5));
        last.send(4, 7, 0);
        counts("the last goes to the last", last, 8, 1, 5, 1, 0, 4, 1, 0, 0, 0, 1, 0, 50);
        DonkeyVerdicts x = Check.laid("n1;d0,0;" + "b3,1,0;".repeat(5));
        counts("all free", x, 1, 1, 5, 0, 0, 5, 0, 0, 0, 0, 0, 0, 43);
        for (int b = 0; b < 5; b++) {
            x.send(b, 0, 0);
        }
        counts("all go", x, 1, 1, 5, 0, 0, 0, 5, 0, 0, 0, 5, 0, 43);
        x.pass(1);
        counts("all stand", x, 1, 1, 5, 0, 1, 0, 0, 5, 0, 0, 6, 0, 43);
        for (int b = 0; b < 5; b++) {
            x.home(b);
        }
        counts("all go home", x, 1, 1, 5, 0, 1, 0, 0, 0, 5, 0, 8, 0, 43);
        x.pass(24);
        counts("all free again", x, 1, 1, 5, 0, 25, 5, 0, 0, 0, 0, 8, 0, 43);
    }
}
