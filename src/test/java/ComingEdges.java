import java.util.function.ToIntFunction;

/** The edges of promises 16 to 24: what comes. */
final class ComingEdges {
    private static final int BAD = DonkeyVerdicts.BAD, NO = DonkeyVerdicts.NO, NONE = DonkeyVerdicts.NONE;
    private static final int MIN = Integer.MIN_VALUE, MAX = Integer.MAX_VALUE;
    private static final int[] NO_BEASTS = {-1, 5, 256, 1 << 30, MIN, MAX};
    private static final int[] NO_DOORS = {-1, 4, 256, 1 << 30, MIN, MAX};
    private static final int[] NO_VERDICTS = {-1, 8, 16, 256, MIN, MAX};
    // 33 hours at pace 1, 99 at pace 3
    private static final String FAR = "w0,1,9;w1,2,9;w2,3,9;w3,4,6;";

    private ComingEdges() { }

    static void run() {
        wrongArrivals();
        arrivesFrom1To99();
        readingsFrom1To99();
        wrongRights();
        rightAsBits();
        rightWithin99();
        soonest();
        wrongTells();
        tells();
        tellsWithin99();
        wrongDeals();
        dealsOfEachSize();
        firstOfSeveralDeals();
        dealsReadRight();
        dealsWithin99();
        wrongLures();
        lures();
        wrongNexts();
        nexts();
        wrongMeetings();
        meetings();
        askingChangesNothing();
    }

    private static void bad(String call, ToIntFunction<DonkeyVerdicts> asked) {
        Busy.refused(call, BAD, asked);
    }

    private static void no(String call, ToIntFunction<DonkeyVerdicts> asked) {
        Busy.refused(call, NO, asked);
    }

    private static void wrongArrivals() {
        Check.holds(16, "ARRIVES. NONE; BAD; NO: FREE, GOES HOME.");
        for (int none : NO_BEASTS) {
            bad("arrives(" + none + ")", x -> x.arrives(none));
        }
        no("arrives(2), free", x -> x.arrives(2));
        no("arrives(4), going home", x -> x.arrives(4));
        Check.holds(17, "READING. NONE; BAD; NO: FREE, GOES HOME.");
        for (int none : NO_BEASTS) {
            bad("reading(" + none + ")", x -> x.reading(none));
        }
        no("reading(2), free", x -> x.reading(2));
        no("reading(4), going home", x -> x.reading(4));
    }

    private static void arrivesFrom1To99() {
        Check.holds(16, "ARRIVES of one that GOES: behind how many HOURS (1 to 99) from now on it STANDS first; none.");
        DonkeyVerdicts x = Check.laid(FAR + "d0,4;d0,0;b1,3,0;b1,3,0;b3,3,0;c1,1;");
        for (int b = 0; b < 3; b++) {
            x.send(b, 7, b == 2 ? 1 : 0);
        }
        Check.due("arrives(0), 100 hours", x.arrives(0), NONE);
        Check.due("arrives(1), 99 hours", x.arrives(1), 99);
        Check.due("arrives(2), to the court", x.arrives(2), 1);
        for (int hour = 1; hour < 99; hour++) {
            x.pass(1);
            Check.due("arrives(0), hour " + hour, x.arrives(0), 100 - hour);
            Check.due("arrives(1), hour " + hour, x.arrives(1), 99 - hour);
        }
        x.pass(1);
        Check.due("arrives(0), hour 99", x.arrives(0), 1);
        Check.holds(16, "(Of one that STANDS: 0; what is READ.)");
        Check.due("arrives(1), standing", x.arrives(1), 0);
        Check.due("arrives(2), standing", x.arrives(2), 0);
        // 2 carrots and 98 hours are too much, 1 is not
        for (int carrots = 0; carrots < 3; carrots++) {
            DonkeyVerdicts y = Check.laid("n8;w0,1,9;w1,2,9;w2,3,9;w3,4,9;w4,5,9;w5,6,4;d0,6;b1,2,0;"
                + (carrots > 0 ? "c1,1;" : "") + (carrots > 1 ? "c5,1;" : ""));
            y.send(0, 0, 0);
            Check.due("arrives(0), 98 hours and " + carrots, y.arrives(0), carrots > 1 ? NONE : 98 + carrots);
        }
    }

    private static void readingsFrom1To99() {
        Check.holds(17, "READING of one that GOES: what would be READ of it then; none. (Of one that STANDS: 0; what is READ.)");
        DonkeyVerdicts x = Check.laid(FAR + "d0,4;d3,0;b1,3,0;b1,3,0;b3,3,0;c1,1;");
        for (int b = 0; b < 3; b++) {
            x.send(b, 7, b == 2 ? 1 : 0);
        }
        Check.due("reading(0), 100 hours", x.reading(0), NONE);
        Check.due("reading(1), 99 hours", x.reading(1), 7);
        Check.due("reading(2), 1 hour", x.reading(2), 3);
        x.pass(1);
        Check.due("reading(0), 99 hours", x.reading(0), 6);
        Check.due("sign(0, 0), not eaten yet", x.sign(0, 0), 7);
        Check.due("reading(2), standing", x.reading(2), 3);
        // by 7 carrots nothing is left of 6, but a constable reads 4 at least
        String text = "n8;w0,1,1;w1,2,1;w2,3,1;w3,4,1;w4,5,1;w5,6,1;w6,7,1;d0,7;d2,7;b0,1,0;b0,1,0;"
            + "c1,2;c2,2;c3,2;c4,2;c5,2;c6,2;c7,2;";
        DonkeyVerdicts y = Check.laid(text);
        y.send(0, 6, 0);
        y.send(1, 6, 1);
        Check.due("reading(0), 0 at least", y.reading(0), 0);
        Check.due("reading(1), 4 at least", y.reading(1), 4);
        Check.due("arrives(0), in 7 no waiting", y.arrives(0), 13);
        // both at least by what was sent ahead of it: the first eats the one that there is
        DonkeyVerdicts z = Check.laid("w0,1,1;d0,1;b0,1,0;b0,1,0;c1,1;");
        z.send(1, 5, 0);
        Check.due("reading(1) alone", z.reading(1), 4);
        z.send(0, 5, 0);
        Check.due("reading(1) behind 0", z.reading(1), 5);
        Check.due("reading(0)", z.reading(0), 4);
    }

    private static void wrongRights() {
        Check.holds(18, "RIGHT, as bits. BAD.");
        for (int none : NO_DOORS) {
            bad("right(" + none + ", 0)", x -> x.right(none, 0));
        }
        for (int none : NO_VERDICTS) {
            bad("right(0, " + none + ")", x -> x.right(0, none));
        }
        bad("right(4, 8)", x -> x.right(4, 8));
        Check.holds(19, "SOONEST. NONE; BAD.");
        for (int none : NO_DOORS) {
            bad("soonest(" + none + ", 0)", x -> x.soonest(none, 0));
        }
        for (int none : NO_VERDICTS) {
            bad("soonest(0, " + none + ")", x -> x.soonest(0, none));
        }
        Busy.refused("soonest(2, 0), no way", NONE, x -> x.soonest(2, 0));
    }

    private static void rightAsBits() {
        Check.holds(18, "RIGHT for a DOOR, a VERDICT: BEASTS (bits) that are FREE, of which, SENT so now alone, that VERDICT would be READ");
        DonkeyVerdicts x = Check.laid("n3;w0,1,1;d0,1;d1,1;d2,1;d0,2;" + "b3,1,0;".repeat(5));
        for (int v = 0; v < 8; v++) {
            Check.due("plain, right(0, " + v + ")", x.right(0, v), 31);
            Check.due("blind, right(1, " + v + ")", x.right(1, v), v % 2 == 0 ? 31 : 0);
            Check.due("constable, right(2, " + v + ")", x.right(2, v), v >= 4 ? 31 : 0);
            Check.due("no way, right(3, " + v + ")", x.right(3, v), 0);
        }
        int[] left = {30, 28, 24, 16, 0};
        for (int b = 0; b < 5; b++) {
            x.send(b, 0, 0);
            Check.due("right(0, 7), sent 0 to " + b, x.right(0, 7), left[b]);
        }
        x.pass(1);
        Check.due("right(0, 7), all standing", x.right(0, 7), 0);
        x.home(4);
        Check.due("right(0, 7), one going home", x.right(0, 7), 0);
        x.pass(1);
        Check.due("right(0, 7), one free again", x.right(0, 7), 16);
        DonkeyVerdicts y = Check.laid("d3,0;" + "b1,1,0;b1,1,1;b2,1,4;b2,1,5;b3,1,0;");
        // of a lawyer only 0 is right, with which the mule of mood 1 is read as 3, the foal of mood 5 as 0
        Check.due("lawyer, right(0, 0)", y.right(0, 0), 29);
        for (int v = 1; v < 8; v++) {
            // 7 less 5 is 2, 7 less 6 is 1: half of these are 1 and 0; the mule of 1 is never right but with 2
            Check.due("lawyer, right(0, " + v + ")", y.right(0, v), v == 1 ? 8 : v == 2 ? 2 : 0);
        }
        // each alone: both would eat the only carrot, were both sent
        DonkeyVerdicts z = Check.laid("w0,1,1;d0,1;b0,1,0;b0,1,0;c1,1;");
        Check.due("right(0, 0), each alone", z.right(0, 0), 3);
        Check.due("right(0, 1), each alone", z.right(0, 1), 0);
    }

    private static void rightWithin99() {
        Check.holds(18, "that VERDICT would be READ within 99 HOURS");
        DonkeyVerdicts x = Check.laid(FAR + "d0,4;b3,3,0;b1,3,0;b1,3,1;b1,2,0;b3,1,0;");
        Check.due("right(0, 0), 99 hours", x.right(0, 0), 27);
        Check.due("soonest(0, 0), 33 hours", x.soonest(0, 0), 4);
        x.carrots(2, 5);
        // the mules of pace 3 would be there behind 100 hours
        Check.due("right(0, 0), 100 hours", x.right(0, 0), 25);
        Check.due("right(0, 7), 100 hours", x.right(0, 7), 17);
    }

    private static void soonest() {
        Check.holds(19, "SOONEST: of these the one that ARRIVES first, of several the lowest; none.");
        DonkeyVerdicts x = Check.laid("w0,1,2;d0,1;d0,0;b3,3,0;b3,2,0;b1,1,1;b3,1,0;b3,1,0;");
        // the mule would be there as soon, but is not right
        int[] next = {3, 4, 1, 0, NONE};
        for (int b : next) {
            Check.due("soonest(0, 7)", x.soonest(0, 7), b);
            if (b != NONE) {
                Check.due("soonest(1, 7), all in an hour: the lowest", x.soonest(1, 7), 0);
                x.send(b, 7, 0);
            }
        }
        Check.due("soonest(0, 3), the mule is not right", x.soonest(0, 3), NONE);
        // in 99 hours it is the soonest, in 100 there is none
        DonkeyVerdicts y = Check.laid(FAR + "d0,4;b1,3,0;");
        Check.due("soonest(0, 0), 99 hours", y.soonest(0, 0), 0);
        y.carrots(1, 1);
        Check.due("soonest(0, 0), 100 hours", y.soonest(0, 0), NONE);
    }

    private static void wrongTells() {
        Check.holds(20, "TELL. NONE; BAD; NO: it is not FREE.");
        for (int none : NO_BEASTS) {
            bad("tell(" + none + ", 0, 0)", x -> x.tell(none, 0, 0));
        }
        for (int none : NO_DOORS) {
            bad("tell(2, " + none + ", 0)", x -> x.tell(2, none, 0));
        }
        for (int none : NO_VERDICTS) {
            bad("tell(2, 0, " + none + ")", x -> x.tell(2, 0, none));
        }
        for (int b : new int[] {0, 1, 3, 4}) {
            no("tell(" + b + ", 0, 0), not free", x -> x.tell(b, 0, 0));
            no("tell(" + b + ", 2, 0), not free, no way", x -> x.tell(b, 2, 0));
            bad("tell(" + b + ", 4, 0), not free", x -> x.tell(b, 4, 0));
            bad("tell(" + b + ", 0, 8), not free", x -> x.tell(b, 0, 8));
        }
        Busy.refused("tell(2, 2, 0), no way", NONE, x -> x.tell(2, 2, 0));
    }

    private static void tell(String when, String beast, int kind, int... want) {
        DonkeyVerdicts x = Check.laid("d" + kind + ",0;" + beast);
        for (int v = 0; v < 8; v++) {
            Check.due(when + ": tell(0, 0, " + v + ")", x.tell(0, 0, v), want[v]);
        }
    }

    private static void tells() {
        Check.holds(20, "TELL for one that is FREE, a DOOR, v: the lowest VERDICT with which, SENT now, it would be READ as v; none.");
        tell("old, plain", "b3,1,9;", 0, 0, 1, 2, 3, 4, 5, 6, 7);
        tell("old, blind", "b3,1,9;", 1, 0, NONE, 2, NONE, 4, NONE, 6, NONE);
        tell("old, constable", "b3,1,9;", 2, NONE, NONE, NONE, NONE, 0, 5, 6, 7);
        tell("old, lawyer", "b3,1,9;", 3, 0, 2, 4, 6, NONE, NONE, NONE, NONE);
        tell("mule of 9, plain", "b1,1,9;", 0, 7, 6, 5, 4, 3, 2, 1, 0);
        tell("mule of 9, blind", "b1,1,9;", 1, 6, NONE, 4, NONE, 2, NONE, 0, NONE);
        tell("mule of 9, constable", "b1,1,9;", 2, NONE, NONE, NONE, NONE, 3, 2, 1, 0);
        tell("mule of 9, lawyer", "b1,1,9;", 3, 6, 4, 2, 0, NONE, NONE, NONE, NONE);
        tell("mule of 8, plain", "b1,1,8;", 0, 0, 1, 2, 3, 4, 5, 6, 7);
        tell("foal of 5, plain", "b2,1,5;", 0, NONE, 0, 1, 2, 3, 4, 5, 6);
        tell("foal of 4, plain", "b2,1,4;", 0, 0, 1, 2, 3, 4, 5, 6, 7);
        tell("foal of 9, lawyer", "b2,1,9;", 3, 0, 1, 3, 5, NONE, NONE, NONE, NONE);
    }

    private static void tellsWithin99() {
        Check.holds(20, "it would be READ as v; none.");
        DonkeyVerdicts x = Check.laid(FAR + "d0,4;b1,3,1;");
        Check.due("tell(0, 0, 7), 99 hours", x.tell(0, 0, 7), 0);
        x.carrots(3, 1);
        Check.due("tell(0, 0, 6), 100 hours", x.tell(0, 0, 6), NONE);
    }

    private static void wrongDeals() {
        Check.holds(21, "DEAL: how many in sum (k = -1), which the k-th DOOR has. NONE; BAD.");
        for (int none : NO_VERDICTS) {
            bad("deal(" + none + ", -1)", x -> x.deal(none, -1));
            bad("deal(" + none + ", 0)", x -> x.deal(none, 0));
        }
        for (int none : new int[] {-2, 4, 256, MIN, MAX}) {
            bad("deal(0, " + none + ")", x -> x.deal(0, none));
        }
        for (int k = -1; k < 4; k++) {
            int door = k;
            Busy.refused("deal(0, " + k + "), one free", NONE, x -> x.deal(0, door));
        }
        for (int doors = 1; doors <= 4; doors++) {
            DonkeyVerdicts x = Check.laid("d0,0;".repeat(doors) + "b3,1,0;".repeat(5));
            Check.due("deal(7, n - 1), n " + doors, x.deal(7, doors - 1), doors - 1);
            Check.due("deal(7, n), n " + doors, x.deal(7, doors), BAD);
            Check.due("deal(7, -1), n " + doors, x.deal(7, -1), doors);
            Check.due("deal(7, -2), n " + doors, x.deal(7, -2), BAD);
        }
    }

    private static void dealsOfEachSize() {
        Check.holds(21, "DEAL of a VERDICT: each DOOR has a BEAST that is FREE SENT to it now, all unlike, with that VERDICT, 0 first");
        for (int doors = 1; doors <= 4; doors++) {
            for (int beasts = 1; beasts <= 5; beasts++) {
                DonkeyVerdicts x = Check.laid("w0,1,1;" + "d0,1;".repeat(doors) + "b3,2,0;".repeat(beasts));
                String when = doors + " doors, " + beasts + " beasts: ";
                boolean is = beasts >= doors;
                Check.due(when + "deal(3, -1)", x.deal(3, -1), is ? 2 * doors : NONE);
                for (int k = 0; k < doors; k++) {
                    Check.due(when + "deal(3, " + k + ")", x.deal(3, k), is ? k : NONE);
                }
            }
        }
        DonkeyVerdicts anew = Check.laid("d0,0;d0,0;d0,0;d0,0;" + "b3,1,0;".repeat(5));
        deal(anew, 3, 4, 0, 1, 2, 3);
        Check.rewrite(anew, "d0,0;b3,1,0;");
        anew.lay();
        deal(anew, 3, 1, 0);
        DonkeyVerdicts y = Check.laid("w0,1,1;d0,1;d0,1;b3,1,0;b3,1,0;b3,1,0;");
        y.send(0, 0, 0);
        Check.due("deal(5, 0), 0 is not free", y.deal(5, 0), 1);
        Check.due("deal(5, 1), 0 is not free", y.deal(5, 1), 2);
        y.pass(1);
        Check.due("deal(5, 0), 0 stands", y.deal(5, 0), 1);
        y.send(1, 0, 0);
        Check.due("deal(5, -1), one is free", y.deal(5, -1), NONE);
    }

    private static void firstOfSeveralDeals() {
        Check.holds(21, "that of fewest HOURS till ARRIVING in sum, of several the first (by which BEAST DOOR 0 has, the lowest ahead, then 1, ..): how many in sum; which the k-th has; none.");
        // 1 and 2 are alike, and so are all deals of them; 0 is too slow
        DonkeyVerdicts x = Check.laid("w0,1,1;w0,2,1;d0,2;d0,1;b3,3,0;b3,1,0;b3,1,0;b3,2,0;");
        deal(x, 4, 2, 1, 2);
        // 0 with either door: 1 and 6, or 3 and 2; 5 in sum is fewer than 7
        DonkeyVerdicts y = Check.laid("w0,1,1;w0,2,3;d0,1;d0,2;b3,2,0;b3,1,0;");
        deal(y, 4, 5, 0, 1);
        // sums alike: 0 to door 0 and 1 to door 1, though they may differ by door
        DonkeyVerdicts z = Check.laid("w0,1,2;w0,2,2;w0,3,2;d0,3;d0,2;d0,1;b3,2,0;b3,1,0;b3,3,0;b3,2,0;");
        deal(z, 0, 10, 0, 1, 3);
    }

    private static void deal(DonkeyVerdicts x, int v, int sum, int... beasts) {
        Check.due("deal(" + v + ", -1)", x.deal(v, -1), sum);
        for (int k = 0; k < beasts.length; k++) {
            Check.due("deal(" + v + ", " + k + ")", x.deal(v, k), beasts[k]);
        }
    }

    private static void dealsReadRight() {
        Check.holds(21, "of all ways such that all of them would be READ as that VERDICT within 99 HOURS");
        DonkeyVerdicts x = Check.laid("d1,0;d2,0;b3,1,0;b3,1,0;");
        for (int v = 0; v < 8; v++) {
            Check.due("blind and constable: deal(" + v + ", -1)", x.deal(v, -1), v >= 4 && v % 2 == 0 ? 2 : NONE);
        }
        DonkeyVerdicts y = Check.laid("d3,0;d0,0;b3,1,0;b3,1,0;");
        for (int v = 0; v < 8; v++) {
            Check.due("lawyer and plain: deal(" + v + ", 0)", y.deal(v, 0), v == 0 ? 0 : NONE);
        }
        // only the foal of mood 5 tells a lawyer 1 with 1, only the mule of mood 1 tells 2 with 2
        DonkeyVerdicts z = Check.laid("d3,0;b3,1,0;b1,1,1;b2,1,5;");
        Check.due("lawyer: deal(1, 0)", z.deal(1, 0), 2);
        Check.due("lawyer: deal(2, 0)", z.deal(2, 0), 1);
        Check.due("lawyer: deal(3, 0)", z.deal(3, 0), NONE);
        Check.holds(21, "(All else goes on as it does.)");
        // 2 goes already, and is ahead of them at the carrot, so that both are right
        DonkeyVerdicts w = Check.laid("w0,1,2;w1,2,1;d0,2;d0,1;b1,2,0;b1,2,0;b1,1,0;c1,1;");
        Check.due("a carrot: deal(7, -1)", w.deal(7, -1), NONE);
        w.send(2, 0, 1);
        Check.due("no carrot by then: deal(7, -1)", w.deal(7, -1), 10);
        // sent together they eat one after the other: 0 eats the only carrot and is not right
        DonkeyVerdicts t = Check.laid("w0,1,1;d0,1;d0,1;b1,1,0;b3,1,0;b1,1,0;c1,1;");
        Check.due("one is never right: deal(7, -1)", t.deal(7, -1), NONE);
        Check.due("0 is always right: deal(0, -1)", t.deal(0, -1), 2);
    }

    private static void dealsWithin99() {
        Check.holds(21, "would be READ as that VERDICT within 99 HOURS, that of fewest HOURS");
        DonkeyVerdicts x = Check.laid(FAR + "d0,4;d0,4;d0,4;d0,4;" + "b1,3,0;".repeat(5));
        deal(x, 0, 4 * 99, 0, 1, 2, 3);
        x.carrots(1, 1);
        // the lowest of those that are sent eats it, and would be there behind 100 hours
        for (int k = -1; k < 4; k++) {
            Check.due("deal(0, " + k + "), 100 hours", x.deal(0, k), NONE);
        }
    }

    private static void wrongLures() {
        Check.holds(22, "LURE. NONE; BAD; NO: it does not GO.");
        for (int none : NO_BEASTS) {
            bad("lure(" + none + ")", x -> x.lure(none));
        }
        no("lure(2), free", x -> x.lure(2));
        no("lure(3), standing", x -> x.lure(3));
        no("lure(4), going home", x -> x.lure(4));
    }

    /** Lure of a donkey that goes with v to a door of that kind in 1. */
    private static int lureTo(int kind, int v) {
        DonkeyVerdicts x = Check.laid("w0,1,1;d" + kind + ",1;b0,1,0;");
        x.send(0, v, 0);
        return x.lure(0);
    }

    private static void lures() {
        Check.holds(22, "what would be READ of it would be least, and less than as it is, of several the lowest; none.");
        for (int v = 0; v < 8; v++) {
            Check.due("plain, " + v, lureTo(0, v), v > 0 ? 1 : NONE);
            Check.due("blind, " + v, lureTo(1, v), v > 0 && v % 2 == 0 ? 1 : NONE);
            Check.due("constable, " + v, lureTo(2, v), v > 4 ? 1 : NONE);
            Check.due("lawyer, " + v, lureTo(3, v), v > 0 && v % 2 == 0 ? 1 : NONE);
        }
        DonkeyVerdicts x = Check.laid("n8;w0,7,1;w7,6,1;w6,5,1;d0,5;d0,0;b0,1,0;b3,1,0;b0,1,0;");
        for (int b = 0; b < 3; b++) {
            x.send(b, 7, b == 2 ? 1 : 0);
        }
        Check.due("lure(0), the lowest of 5, 6, 7", x.lure(0), 5);
        Check.due("lure(1), old", x.lure(1), NONE);
        Check.due("lure(2), to the court", x.lure(2), NONE);
        x.carrots(5, 1);
        Check.due("lure(0), one in 5", x.lure(0), 6);
        x.carrots(6, 9);
        Check.due("lure(0), one in 5, 9 in 6", x.lure(0), 7);
        x.carrots(7, 9);
        Check.due("lure(0), some everywhere", x.lure(0), NONE);
        x.carrots(7, 0);
        x.pass(1);
        Check.due("lure(0), 7 is behind it", x.lure(0), NONE);
        // 0 on its way home eats the carrot in 2, as it is the lower; a carrot in 1 would keep it
        DonkeyVerdicts y = Check.laid("w0,2,2;w2,1,1;w1,3,1;d0,3;d0,2;b0,1,0;b0,1,0;");
        y.send(0, 0, 0);
        y.pass(4);
        y.home(0);
        y.carrots(2, 1);
        y.send(1, 7, 1);
        Check.due("reading(1), 0 eats it", y.reading(1), 7);
        Check.due("lure(1), by way of 0", y.lure(1), 1);
        Check.holds(22, "LURE of one that GOES: the PLACE such that, were there a CARROT more now (9 at most)");
        DonkeyVerdicts z = Check.laid("w0,1,1;w1,2,1;d0,2;b0,1,0;c1,9;c2,9;");
        z.send(0, 7, 0);
        Check.due("lure(0), 9 in each", z.lure(0), NONE);
        z.carrots(2, 0);
        Check.due("lure(0), 9 in 1", z.lure(0), 2);
        z.carrots(1, 8);
        Check.due("lure(0), 8 in 1", z.lure(0), 2);
        // one carrot more is eaten by 0, and none is left for 1
        DonkeyVerdicts w = Check.laid("w0,1,1;d0,1;b0,1,0;b0,1,0;");
        w.send(0, 7, 0);
        w.send(1, 7, 0);
        Check.due("lure(0), it eats it", w.lure(0), 1);
        Check.due("lure(1), 0 eats it", w.lure(1), NONE);
        w.carrots(1, 1);
        Check.due("lure(1), 0 eats the other", w.lure(1), 1);
        // the last of five, which would linger in 2, were that not behind its door
        DonkeyVerdicts last = Check.laid("w0,1,1;w1,2,1;d0,1;m2;" + "b0,1,0;".repeat(5));
        last.send(4, 7, 0);
        Check.due("lure(4), the last of five", last.lure(4), 1);
        // one that is not there within 99 hours is not read
        DonkeyVerdicts t = Check.laid(FAR + "d0,4;b1,3,0;c1,1;");
        t.send(0, 7, 0);
        Check.due("lure(0), 100 hours", t.lure(0), NONE);
        t.pass(1);
        Check.due("lure(0), 99 hours, the last place alone", t.lure(0), 4);
        t.pass(1);
        Check.due("lure(0), 98 hours", t.lure(0), 2);
    }

    private static void wrongNexts() {
        Check.holds(23, "NEXT. NONE; BAD (k below 0, too); NO: FREE, STANDS.");
        for (int none : NO_BEASTS) {
            bad("next(" + none + ", 0)", x -> x.next(none, 0));
        }
        for (int b = 0; b < 5; b++) {
            int beast = b;
            bad("next(" + b + ", -1)", x -> x.next(beast, -1));
            bad("next(" + b + ", " + MIN + ")", x -> x.next(beast, MIN));
        }
        for (int k : new int[] {0, 1, 7, MAX}) {
            no("next(2, " + k + "), free", x -> x.next(2, k));
            no("next(3, " + k + "), standing", x -> x.next(3, k));
            Busy.unchanged("next(0, " + k + ")", x -> x.next(0, k));
        }
        for (int k : new int[] {1, 2, 8, 1 << 30, MAX}) {
            Busy.refused("next(4, " + k + "), no more", NONE, x -> x.next(4, k));
        }
    }

    private static void nexts(String when, DonkeyVerdicts x, int... want) {
        for (int k = 0; k < want.length; k++) {
            Check.due(when + ": next(0, " + k + ")", x.next(0, k), want[k]);
        }
        for (int k = want.length; k < want.length + 9; k++) {
            Check.due(when + ": next(0, " + k + ")", x.next(0, k), NONE);
        }
        Check.due(when + ": next(0, " + MAX + ")", x.next(0, MAX), NONE);
    }

    private static void nexts() {
        Check.holds(23, "NEXT of one that GOES, or GOES HOME: the k-th PLACE (0 first) on its way from now on (that to which it is on its way first); none.");
        DonkeyVerdicts x = Check.laid("n8;w0,7,2;w7,1,1;w1,6,1;w6,2,1;w2,5,1;w5,3,1;w3,4,1;d0,4;b1,1,0;c7,1;");
        x.send(0, 0, 0);
        nexts("sent", x, 7, 1, 6, 2, 5, 3, 4);
        x.pass(1);
        nexts("on a way", x, 7, 1, 6, 2, 5, 3, 4);
        x.pass(1);
        nexts("in 7, waiting", x, 1, 6, 2, 5, 3, 4);
        x.pass(1);
        nexts("in 7", x, 1, 6, 2, 5, 3, 4);
        x.pass(1);
        nexts("in 1", x, 6, 2, 5, 3, 4);
        x.pass(4);
        nexts("in 3", x, 4);
        x.pass(1);
        Check.due("standing: next(0, 0)", x.next(0, 0), NO);
        x.home(0);
        nexts("called home", x, 3, 5, 2, 6, 1, 7, 0);
        x.pass(7);
        nexts("on the last way", x, 0);
        x.pass(1);
        Check.due("free: next(0, 0)", x.next(0, 0), NO);
        DonkeyVerdicts y = Check.laid("w0,1,1;d0,0;b0,1,0;");
        y.send(0, 0, 0);
        nexts("to the court", y);
        y.pass(1);
        y.home(0);
        nexts("home in the court", y);
    }

    private static void wrongMeetings() {
        Check.holds(24, "MEET. NONE; BAD (alike, too).");
        for (int none : NO_BEASTS) {
            bad("meet(" + none + ", 0)", x -> x.meet(none, 0));
            bad("meet(0, " + none + ")", x -> x.meet(0, none));
            bad("meet(" + none + ", " + none + ")", x -> x.meet(none, none));
        }
        for (int b = 0; b < 5; b++) {
            int beast = b;
            bad("meet(" + b + ", " + b + ")", x -> x.meet(beast, beast));
        }
        Busy.refused("meet(0, 2), never", NONE, x -> x.meet(0, 2));
        Check.due("meet(0, 1) of one", Check.laid("d0,0;b0,1,0;").meet(0, 1), BAD);
    }

    private static void meetings() {
        Check.holds(24, "MEET of two BEASTS: behind how many HOURS (0 to 60) both are in one PLACE, neither being on a WAY; none.");
        DonkeyVerdicts x = Busy.made();
        int[][] hours = {{0, 4, 0}, {2, 3, 0}, {1, 4, NONE}, {2, 4, 2}, {3, 4, 2}, {1, 3, NONE}};
        for (int[] h : hours) {
            Check.due("meet(" + h[0] + ", " + h[1] + ")", x.meet(h[0], h[1]), h[2]);
            Check.due("meet(" + h[1] + ", " + h[0] + ")", x.meet(h[1], h[0]), h[2]);
        }
        // the slower one is there 66 hours behind the time at which it sets out
        DonkeyVerdicts y = Check.laid("w0,1,9;w1,2,9;w2,3,4;d0,3;b3,1,0;b3,3,0;");
        y.send(0, 0, 0);
        y.pass(1);
        y.send(1, 0, 0);
        for (int left = 66; left >= 1; left--) {
            Check.due("meet(0, 1) in " + left, y.meet(0, 1), left > 60 ? NONE : left);
            Check.due("meet(1, 0) in " + left, y.meet(1, 0), left > 60 ? NONE : left);
            y.pass(1);
        }
        Check.due("meet(0, 1), both there", y.meet(0, 1), 0);
        Check.due("count(7)", y.count(7), 2);
        // both on one way, set out from one place, at once or not: not in a place
        DonkeyVerdicts z = Check.laid("w0,1,2;d0,1;b3,1,0;b3,1,0;b3,2,0;");
        z.send(0, 0, 0);
        z.send(1, 0, 0);
        z.send(2, 0, 0);
        Check.due("meet(0, 1), not set out", z.meet(0, 1), 0);
        z.pass(1);
        Check.due("meet(0, 1), on a way", z.meet(0, 1), 1);
        Check.due("meet(0, 2), on a way", z.meet(0, 2), 3);
    }

    private static void askingChangesNothing() {
        Check.holds(16, "from now on it STANDS first");
        Busy.unchanged("arrives(0)", x -> x.arrives(0));
        Check.holds(17, "what would be READ of it then");
        Busy.unchanged("reading(0)", x -> x.reading(0));
        Check.holds(18, "SENT so now alone");
        Busy.unchanged("right(0, 7)", x -> x.right(0, 7));
        Check.holds(19, "of these the one that ARRIVES first");
        Busy.unchanged("soonest(0, 7)", x -> x.soonest(0, 7));
        Check.holds(20, "with which, SENT now");
        Busy.unchanged("tell(2, 0, 7)", x -> x.tell(2, 0, 7));
        Check.holds(21, "SENT to it now");
        Look.unchanged("deal(3, 2)", DonkeyVerdicts::new, x -> x.deal(6, 2));
        Look.unchanged("deal(0, -1)", () -> Check.laid("w0,1,1;d0,1;d0,1;b3,2,0;b3,1,0;"), x -> x.deal(0, -1));
        Check.holds(22, "were there a CARROT more now");
        Busy.unchanged("lure(1)", x -> x.lure(1));
        Check.holds(24, "behind how many HOURS (0 to 60) both are in one PLACE");
        Busy.unchanged("meet(1, 2)", x -> x.meet(1, 2));
    }
}
