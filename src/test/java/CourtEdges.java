import java.util.function.ToIntFunction;

/** The edges of promises 6 to 10: places, ways, doors, beasts, signs. */
final class CourtEdges {
    private static final int BAD = DonkeyVerdicts.BAD, NO = DonkeyVerdicts.NO, NONE = DonkeyVerdicts.NONE;
    private static final int MIN = Integer.MIN_VALUE, MAX = Integer.MAX_VALUE;
    // numbers that would be a place, a door, a beast, had they been cut to fewer bits or had a sum run over
    private static final int[] FAR_OFF = {MIN, MIN + 1, -65536, -256, 256, 65536, 1 << 29, 1 << 30, MAX};

    private CourtEdges() { }

    static void run() {
        wrongPlaces();
        carrotsOfAPlace();
        maresOfAPlace();
        beastsOfAPlace();
        wrongWays();
        ways();
        doors();
        wrongBeasts();
        statesOfABeast();
        hoursOfABeast();
        doorOfABeast();
        wrongSigns();
        signsByMood();
        signsByCarrots();
        signsByMares();
    }

    private static void bad(String call, ToIntFunction<DonkeyVerdicts> asked) {
        Busy.refused(call, BAD, asked);
    }

    private static void wrongPlaces() {
        Check.holds(6, "Of a PLACE: CARROTS (what = 0), 1 with a MARE (1), how many BEASTS are in it, not on a WAY (2). BAD.");
        for (int what = 0; what < 3; what++) {
            int w = what;
            bad("place(-1, " + w + ")", x -> x.place(-1, w));
            bad("place(8, " + w + ")", x -> x.place(8, w));
            for (int far : FAR_OFF) {
                bad("place(" + far + ", " + w + ")", x -> x.place(far, w));
            }
            Busy.unchanged("place(7, " + w + ")", x -> x.place(7, w));
        }
        bad("place(0, -1)", x -> x.place(0, -1));
        bad("place(0, 3)", x -> x.place(0, 3));
        bad("place(7, " + MIN + ")", x -> x.place(7, MIN));
        bad("place(7, " + MAX + ")", x -> x.place(7, MAX));
        bad("place(8, 3)", x -> x.place(8, 3));
        Check.holds(6, "BAD: a number is none that is told (PLACES, DOORS, BEASTS: such as there are; VERDICTS 0 to 7)");
        for (int n = 1; n <= 8; n++) {
            DonkeyVerdicts x = Check.laid("n" + n + ";d0,0;b0,1,0;");
            Check.due("place(n - 1, 0), n " + n, x.place(n - 1, 0), 0);
            Check.due("place(n, 0), n " + n, x.place(n, 0), BAD);
        }
    }

    private static void carrotsOfAPlace() {
        Check.holds(6, "(0 to 9) CARROTS");
        DonkeyVerdicts x = Check.laid("n8;c0,9;c7,9;c3,0;c4,1;d0,0;b0,1,0;");
        int[] carrots = {9, 0, 0, 0, 1, 0, 0, 9};
        for (int p = 0; p < 8; p++) {
            Check.due("place(" + p + ", 0)", x.place(p, 0), carrots[p]);
        }
    }

    private static void maresOfAPlace() {
        Check.holds(6, "1 with a MARE (1)");
        DonkeyVerdicts x = Check.laid("n8;m0;m7;m7;c6,1;d0,0;b0,1,0;");
        for (int p = 0; p < 8; p++) {
            Check.due("place(" + p + ", 1)", x.place(p, 1), p == 0 || p == 7 ? 1 : 0);
        }
    }

    private static void beastsOfAPlace() {
        Check.holds(6, "how many BEASTS are in it, not on a WAY (2)");
        DonkeyVerdicts x = Check.laid("n8;w0,1,1;w1,7,2;d0,7;b0,1,0;b1,1,0;b2,1,0;b3,1,0;b3,1,0;c1,9;m1;");
        inPlaces("none sent", x, 5, 0, 0);
        for (int b = 0; b < 5; b++) {
            x.send(b, 0, 0);
        }
        inPlaces("all sent, none set out", x, 5, 0, 0);
        x.pass(1);
        inPlaces("all in 1", x, 0, 5, 0);
        x.pass(1);
        // the donkey and the foal wait for 3 hours, the mule for 1; the old ones have set out
        inPlaces("three wait", x, 0, 3, 0);
        x.pass(1);
        inPlaces("two wait", x, 0, 2, 2);
        x.pass(1);
        inPlaces("one more there", x, 0, 2, 3);
        x.pass(2);
        inPlaces("all there", x, 0, 0, 5);
        x.home(4);
        inPlaces("one called home", x, 0, 0, 5);
        x.pass(1);
        inPlaces("one on its way home", x, 0, 0, 4);
        x.pass(1);
        inPlaces("one in 1", x, 0, 1, 4);
        x.pass(1);
        inPlaces("one is free", x, 1, 0, 4);
    }

    private static void inPlaces(String when, DonkeyVerdicts x, int court, int one, int seven) {
        int[] want = {court, one, 0, 0, 0, 0, 0, seven};
        for (int p = 0; p < 8; p++) {
            Check.due(when + ": place(" + p + ", 2)", x.place(p, 2), want[p]);
        }
    }

    private static void wrongWays() {
        Check.holds(7, "L of the WAY between two PLACES. NONE; BAD (alike, too).");
        bad("way(-1, 0)", x -> x.way(-1, 0));
        bad("way(0, -1)", x -> x.way(0, -1));
        bad("way(8, 0)", x -> x.way(8, 0));
        bad("way(0, 8)", x -> x.way(0, 8));
        bad("way(-1, 9)", x -> x.way(-1, 9));
        bad("way(1, -1)", x -> x.way(1, -1));
        for (int far : FAR_OFF) {
            bad("way(" + far + ", 1)", x -> x.way(far, 1));
            bad("way(1, " + far + ")", x -> x.way(1, far));
            bad("way(" + far + ", " + far + ")", x -> x.way(far, far));
        }
        for (int a = -1; a <= 8; a++) {
            int place = a;
            bad("way(" + a + ", " + a + ")", x -> x.way(place, place));
        }
        Busy.refused("way(0, 7)", NONE, x -> x.way(0, 7));
        Busy.refused("way(7, 0)", NONE, x -> x.way(7, 0));
        Busy.unchanged("way(0, 1)", x -> x.way(0, 1));
        DonkeyVerdicts one = Check.laid("n1;d0,0;b0,1,0;");
        Check.due("way(0, 1) of one place", one.way(0, 1), BAD);
        Check.due("way(0, 0) of one place", one.way(0, 0), BAD);
    }

    private static void ways() {
        Check.holds(7, "a WAY of L (1 to 9) between PLACES A and B");
        DonkeyVerdicts x = Check.laid("n8;w0,7,9;w6,7,1;w3,2,5;d0,0;b0,1,0;");
        for (int a = 0; a < 8; a++) {
            for (int b = 0; b < 8; b++) {
                int sum = a + b;
                int product = a * b;
                int want = a == b ? BAD : sum == 7 && product == 0 ? 9 : sum == 13 ? 1
                    : sum == 5 && product == 6 ? 5 : NONE;
                Check.due("way(" + a + ", " + b + ")", x.way(a, b), want);
            }
        }
    }

    private static void doors() {
        Check.holds(8, "Of a DOOR: KIND (what = 0), PLACE (1). BAD.");
        for (int what = 0; what < 2; what++) {
            int w = what;
            bad("door(-1, " + w + ")", x -> x.door(-1, w));
            bad("door(4, " + w + ")", x -> x.door(4, w));
            for (int far : FAR_OFF) {
                bad("door(" + far + ", " + w + ")", x -> x.door(far, w));
            }
            Busy.unchanged("door(3, " + w + ")", x -> x.door(3, w));
        }
        bad("door(0, -1)", x -> x.door(0, -1));
        bad("door(0, 2)", x -> x.door(0, 2));
        bad("door(3, " + MIN + ")", x -> x.door(3, MIN));
        bad("door(3, " + MAX + ")", x -> x.door(3, MAX));
        Check.holds(8, "KIND K (0 PLAIN, 1 BLIND, 2 CONSTABLE, 3 LAWYER); 4 at most, 0, 1, ..");
        for (int n = 1; n <= 4; n++) {
            DonkeyVerdicts x = Check.laid("n8;" + "d3,7;".repeat(n - 1) + "d0,0;b0,1,0;");
            for (int d = 0; d < n; d++) {
                Check.due("door(" + d + ", 0) of " + n, x.door(d, 0), d == n - 1 ? 0 : 3);
                Check.due("door(" + d + ", 1) of " + n, x.door(d, 1), d == n - 1 ? 0 : 7);
            }
            Check.due("door(n, 0), n " + n, x.door(n, 0), BAD);
            Check.due("door(n, 1), n " + n, x.door(n, 1), BAD);
        }
    }

    private static void wrongBeasts() {
        Check.holds(9, "DOOR (7; NONE: FREE, GOES HOME). BAD.");
        for (int what = 0; what < 8; what++) {
            int w = what;
            bad("beast(-1, " + w + ")", x -> x.beast(-1, w));
            bad("beast(5, " + w + ")", x -> x.beast(5, w));
            for (int far : FAR_OFF) {
                bad("beast(" + far + ", " + w + ")", x -> x.beast(far, w));
            }
            Busy.unchanged("beast(4, " + w + ")", x -> x.beast(4, w));
        }
        bad("beast(0, -1)", x -> x.beast(0, -1));
        bad("beast(0, 8)", x -> x.beast(0, 8));
        bad("beast(4, " + MIN + ")", x -> x.beast(4, MIN));
        bad("beast(4, " + MAX + ")", x -> x.beast(4, MAX));
        Check.holds(9, "5 at most, 0, 1, ..");
        for (int n = 1; n <= 5; n++) {
            DonkeyVerdicts x = Check.laid("d0,0;" + "b0,1,0;".repeat(n));
            Check.due("beast(n - 1, 1), n " + n, x.beast(n - 1, 1), 1);
            Check.due("beast(n, 1), n " + n, x.beast(n, 1), BAD);
        }
    }

    private static void statesOfABeast() {
        Check.holds(9, "Of a BEAST: KIND (what = 0), PACE (1), MOOD (2), 0 FREE, 1 GOES, 2 STANDS, 3 GOES HOME (3), in which PLACE it is, or set out from (4), to which PLACE it is on a WAY (5; NONE)");
        DonkeyVerdicts x = Busy.made();
        int[] kinds = {0, 1, 2, 3, 3};
        int[] paces = {1, 2, 1, 3, 1};
        for (int b = 0; b < 5; b++) {
            Check.due("beast(" + b + ", 0)", x.beast(b, 0), kinds[b]);
            Check.due("beast(" + b + ", 1)", x.beast(b, 1), paces[b]);
        }
        Check.beast("waits", x, 0, 0, 1, 1, NONE, 1, 1);
        Check.beast("on a way", x, 1, 6, 1, 0, 1, 2, 1);
        Check.beast("free", x, 2, 7, 0, 0, NONE, 0, NONE);
        Check.beast("stands", x, 3, 3, 2, 0, NONE, 0, 3);
        Check.beast("goes home", x, 4, 1, 3, 1, NONE, 0, NONE);
        x.pass(1);
        Check.beast("waited", x, 0, 0, 1, 1, NONE, 0, 1);
        Check.beast("on a way still", x, 1, 6, 1, 0, 1, 1, 1);
        Check.beast("on a way home", x, 4, 1, 3, 1, 0, 1, NONE);
        x.pass(1);
        Check.beast("set out again", x, 0, 0, 1, 1, 2, 2, 1);
        Check.beast("there", x, 1, 6, 1, 1, NONE, 1, 1);
        Check.beast("home", x, 4, 1, 0, 0, NONE, 0, NONE);
    }

    private static void hoursOfABeast() {
        Check.holds(9, "how many HOURS it still has to go, or WAITS (6; 0)");
        // 9 times 3 is as long as a way can be, 1 times 1 as short
        DonkeyVerdicts x = Check.laid("w0,1,9;w0,2,1;d0,1;d0,2;b3,3,0;b3,1,0;");
        x.send(0, 0, 0);
        x.send(1, 0, 1);
        Check.due("beast(0, 6), not set out", x.beast(0, 6), 0);
        for (int hour = 1; hour < 27; hour++) {
            x.pass(1);
            Check.beast("hour " + hour, x, 0, 1, 1, 0, 1, 27 - hour, 0);
            Check.beast("hour " + hour, x, 1, 1, 2, 2, NONE, 0, 1);
        }
        x.pass(1);
        Check.beast("hour 27", x, 0, 1, 2, 1, NONE, 0, 0);
        // a carrot is 1 hour, a mare 2, both 3
        DonkeyVerdicts y = Check.laid("w0,1,1;w1,2,1;w2,3,1;w3,4,1;d0,4;b0,1,0;c1,1;m2;c3,9;m3;");
        y.send(0, 7, 0);
        int[][] hours = {{1, 1}, {1, 0}, {2, 2}, {2, 1}, {2, 0}, {3, 3}, {3, 2}, {3, 1}, {3, 0}};
        for (int[] hour : hours) {
            y.pass(1);
            Check.beast("waits", y, 0, 1, 1, hour[0], NONE, hour[1], 0);
        }
        y.pass(1);
        Check.beast("there", y, 0, 1, 2, 4, NONE, 0, 0);
    }

    private static void doorOfABeast() {
        Check.holds(9, "DOOR (7; NONE: FREE, GOES HOME)");
        DonkeyVerdicts x = Check.laid("w0,1,1;d0,1;d0,0;d0,1;d0,1;b3,1,0;");
        for (int d = 0; d < 4; d++) {
            Check.due("free", x.beast(0, 7), NONE);
            x.send(0, 0, d);
            Check.due("goes to " + d, x.beast(0, 7), d);
            x.pass(1);
            Check.due("stands at " + d, x.beast(0, 7), d);
            x.home(0);
            Check.due("goes home from " + d, x.beast(0, 7), NONE);
            x.pass(1);
        }
    }

    private static void wrongSigns() {
        Check.holds(10, "SIGN by now of one that GOES or STANDS (what = 0), CARROTS that it has EATEN (1), how often it LINGERED (2). BAD; NO: FREE, GOES HOME.");
        for (int what = 0; what < 3; what++) {
            int w = what;
            bad("sign(-1, " + w + ")", x -> x.sign(-1, w));
            bad("sign(5, " + w + ")", x -> x.sign(5, w));
            Busy.refused("sign(2, " + w + "), free", NO, x -> x.sign(2, w));
            Busy.refused("sign(4, " + w + "), going home", NO, x -> x.sign(4, w));
            for (int b : new int[] {0, 1, 3}) {
                Busy.unchanged("sign(" + b + ", " + w + ")", x -> x.sign(b, w));
            }
            for (int far : FAR_OFF) {
                bad("sign(" + far + ", " + w + ")", x -> x.sign(far, w));
            }
        }
        Check.holds(10, "Of several the first; nothing changes then.");
        for (int what : new int[] {-1, 3, MIN, MAX}) {
            for (int b = -1; b <= 5; b++) {
                int beast = b;
                bad("sign(" + b + ", " + what + ")", x -> x.sign(beast, what));
            }
        }
    }

    /** How beasts of a kind and a mood stand that have been sent with each verdict. */
    private static void signs(String when, int kind, int mood, int... want) {
        for (int v = 0; v < 8; v++) {
            DonkeyVerdicts x = Check.laid("d0,0;b" + kind + ",1," + mood + ";");
            x.send(0, v, 0);
            Check.due(when + ", mood " + mood + ", verdict " + v + ": sign going", x.sign(0, 0), want[v]);
            x.pass(1);
            Check.due(when + ", mood " + mood + ", verdict " + v + ": sign standing", x.sign(0, 0), want[v]);
        }
    }

    private static void signsByMood() {
        Check.holds(10, "How one STANDS, its SIGN: the VERDICT; of a MULE 7 less that, if its MOOD was uneven as it was SENT; of a FOAL 1 more (7 at most), if its MOOD was 5 or more then");
        for (int mood = 0; mood < 10; mood++) {
            signs("donkey", 0, mood, 0, 1, 2, 3, 4, 5, 6, 7);
            signs("old", 3, mood, 0, 1, 2, 3, 4, 5, 6, 7);
            if (mood % 2 == 0) {
                signs("mule", 1, mood, 0, 1, 2, 3, 4, 5, 6, 7);
            } else {
                signs("mule", 1, mood, 7, 6, 5, 4, 3, 2, 1, 0);
            }
            if (mood < 5) {
                signs("foal", 2, mood, 0, 1, 2, 3, 4, 5, 6, 7);
            } else {
                signs("foal", 2, mood, 1, 2, 3, 4, 5, 6, 7, 7);
            }
        }
        // the mood is told anew each time: 9, then 0, for the mule; 4, then 5, for the foal
        DonkeyVerdicts x = Check.laid("d0,0;b1,1,9;b2,1,4;");
        int[][] want = {{7, 0}, {0, 1}, {7, 1}};
        for (int[] signs : want) {
            for (int b = 0; b < 2; b++) {
                x.send(b, 0, 0);
                Check.due("sign(" + b + ", 0)", x.sign(b, 0), signs[b]);
            }
            x.pass(1);
            x.home(0);
            x.home(1);
            x.pass(1);
        }
    }

    private static void signsByCarrots() {
        Check.holds(10, "then 1 less for each CARROT that it has EATEN on its way");
        String text = "n8;w0,1,1;w1,2,1;w2,3,1;w3,4,1;w4,5,1;w5,6,1;w6,7,1;d0,7;"
            + "b0,1,0;b1,1,1;b2,1,5;b3,1,0;b1,1,0;c1,4;c2,4;c3,4;c4,4;c5,4;c6,4;c7,4;";
        DonkeyVerdicts x = Check.laid(text);
        for (int b = 0; b < 5; b++) {
            x.send(b, b == 1 ? 1 : 6, 0);
        }
        // 6, 7 less 1, 1 more than 6, 6 of an old one, 6
        int[] signs = {6, 6, 7, 6, 6};
        for (int eaten = 1; eaten <= 7; eaten++) {
            x.pass(eaten == 1 ? 1 : 2);
            for (int b = 0; b < 5; b++) {
                int lost = b == 3 ? 0 : eaten;
                Check.due("sign(" + b + ", 0), " + eaten + " eaten", x.sign(b, 0), Math.max(signs[b] - lost, 0));
                Check.due("sign(" + b + ", 1), " + eaten + " eaten", x.sign(b, 1), lost);
                Check.due("sign(" + b + ", 2), " + eaten + " eaten", x.sign(b, 2), 0);
            }
        }
        Check.due("count(7)", x.count(7), 5);
    }

    private static void signsByMares() {
        Check.holds(10, "2 less for each time that it LINGERED (0 at least)");
        DonkeyVerdicts x = Check.laid("n8;w0,1,1;w1,2,1;w2,3,1;w3,4,1;w4,5,1;d0,5;"
            + "b0,1,0;b1,1,0;b2,1,5;b3,1,0;b0,1,0;m1;m2;m3;m4;m5;m0;");
        for (int b = 0; b < 5; b++) {
            x.send(b, 7 - b, 0);
        }
        // 7, 6, 1 more than 5, 4, 3
        int[] signs = {7, 6, 6, 4, 3};
        for (int lingered = 1; lingered <= 5; lingered++) {
            x.pass(lingered == 1 ? 1 : 3);
            for (int b = 0; b < 5; b++) {
                int times = b == 1 || b == 3 ? 0 : lingered;
                Check.due("sign(" + b + ", 0), " + lingered, x.sign(b, 0), Math.max(signs[b] - 2 * times, 0));
                Check.due("sign(" + b + ", 1), " + lingered, x.sign(b, 1), 0);
                Check.due("sign(" + b + ", 2), " + lingered, x.sign(b, 2), times);
            }
        }
        Check.due("count(7)", x.count(7), 5);
        // both in one place: 3 less
        DonkeyVerdicts y = Check.laid("w0,1,1;d0,1;b0,1,0;c1,1;m1;");
        y.send(0, 3, 0);
        y.pass(1);
        Check.due("sign(0, 0), 3 less 3", y.sign(0, 0), 0);
    }
}
