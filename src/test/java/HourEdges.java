import java.util.function.ToIntFunction;

/** The edges of promises 11 to 15: sending, hours, calling home, carrots, undoing. */
final class HourEdges {
    private static final int BAD = DonkeyVerdicts.BAD, NO = DonkeyVerdicts.NO, NONE = DonkeyVerdicts.NONE;
    private static final int MIN = Integer.MIN_VALUE, MAX = Integer.MAX_VALUE;

    private HourEdges() { }

    static void run() {
        wrongSending();
        refusedSending();
        badAheadOfNo();
        moods();
        wrongHours();
        hoursGoneBy();
        lengthTimesPace();
        paths();
        theLowestEatsFirst();
        whoEatsAndLingers();
        waitingDoesNoMore();
        whereItGoesItDoesNotWait();
        doorInTheCourt();
        wrongCallsHome();
        refusedCallsHome();
        readByKind();
        wayHome();
        wrongCarrots();
        carrotsLaidAndTakenUp();
        nothingToUndo();
        theLastEight();
        eachIsUndone();
        whatIsNotUndone();
    }

    private static void bad(String call, ToIntFunction<DonkeyVerdicts> asked) {
        Busy.refused(call, BAD, asked);
    }

    private static void wrongSending() {
        Check.holds(11, "A BEAST is SENT with a VERDICT to a DOOR: its MOOD then. BAD; NO: it is not FREE, there is no way.");
        for (int none : new int[] {-1, 5, MIN, MAX, 256, 1 << 30}) {
            bad("send(" + none + ", 0, 0)", x -> x.send(none, 0, 0));
        }
        for (int none : new int[] {-1, 8, MIN, MAX, 256, 16}) {
            bad("send(2, " + none + ", 0)", x -> x.send(2, none, 0));
        }
        for (int none : new int[] {-1, 4, MIN, MAX, 256, 1 << 30}) {
            bad("send(2, 0, " + none + ")", x -> x.send(2, 0, none));
        }
        for (int v = 0; v < 8; v++) {
            DonkeyVerdicts x = Busy.made();
            Check.due("send(2, " + v + ", 3)", x.send(2, v, 3), 8);
            Check.due("count(10)", x.count(10), 8);
        }
    }

    private static void refusedSending() {
        Check.holds(11, "One that is FREE is SENT with a VERDICT (0 to 7) to a DOOR (there has to be a way)");
        String[] states = {"waiting", "on a way", "", "standing", "going home"};
        for (int b = 0; b < 5; b++) {
            int beast = b;
            if (b != 2) {
                Busy.refused("send(" + b + ", 7, 0), " + states[b], NO, x -> x.send(beast, 7, 0));
                Busy.refused("send(" + b + ", 7, 3), " + states[b], NO, x -> x.send(beast, 7, 3));
            }
        }
        Busy.refused("send(2, 7, 2), no way", NO, x -> x.send(2, 7, 2));
        DonkeyVerdicts x = Check.laid("n3;w1,2,1;d0,0;d0,1;d0,2;b3,1,0;");
        Check.due("no way to 1", x.send(0, 0, 1), NO);
        Check.due("no way to 2", x.send(0, 0, 2), NO);
        Check.due("no way is needed to 0", x.send(0, 0, 0), 1);
    }

    private static void badAheadOfNo() {
        Check.holds(11, "NO: not as things stand. NONE: there is none. FULL. Of several the first; nothing changes then.");
        for (int b = 0; b < 5; b++) {
            int beast = b;
            bad("send(" + b + ", 8, 2)", x -> x.send(beast, 8, 2));
            bad("send(" + b + ", -1, 2)", x -> x.send(beast, -1, 2));
            bad("send(" + b + ", 7, 4)", x -> x.send(beast, 7, 4));
        }
        bad("send(5, 8, 4)", x -> x.send(5, 8, 4));
        bad("send(-1, 0, 2), no way", x -> x.send(-1, 0, 2));
    }

    private static void moods() {
        Check.holds(11, "it GOES; its MOOD is 1 more then (behind 9 comes 0)");
        for (int mood = 0; mood < 10; mood++) {
            DonkeyVerdicts x = Check.laid("d0,0;b0,1," + mood + ";b0,1," + mood + ";");
            Check.due("send of mood " + mood, x.send(0, 0, 0), mood == 9 ? 0 : mood + 1);
            Check.due("beast(0, 2), sent", x.beast(0, 2), mood == 9 ? 0 : mood + 1);
            Check.due("beast(0, 3), sent", x.beast(0, 3), 1);
            Check.due("beast(1, 3), not sent", x.beast(1, 3), 0);
            Check.due("beast(1, 2), not sent", x.beast(1, 2), mood);
            x.send(0, 0, 0);
            Check.due("beast(0, 2), refused", x.beast(0, 2), mood == 9 ? 0 : mood + 1);
        }
        DonkeyVerdicts y = Check.laid("d0,0;b3,1,8;");
        for (int i = 0; i < 13; i++) {
            Check.due("sent for the time " + i, y.send(0, 0, 0), (9 + i) % 10);
            y.pass(1);
            y.home(0);
            y.pass(1);
            Check.due("home again " + i, y.beast(0, 2), (9 + i) % 10);
        }
    }

    private static void wrongHours() {
        Check.holds(12, "n HOURS (1 to 24) go by: how many have. BAD.");
        for (int none : new int[] {0, -1, 25, 256, 257, 65537, MIN, MIN + 1, MAX}) {
            bad("pass(" + none + ")", x -> x.pass(none));
        }
        for (int n : new int[] {1, 2, 23, 24}) {
            Check.due("pass(" + n + ")", Busy.made().pass(n), n + 2);
        }
    }

    private static void hoursGoneBy() {
        Check.holds(12, "4 hours gone by");
        DonkeyVerdicts x = new DonkeyVerdicts();
        int hours = 0;
        for (int n = 1; n <= 24; n++) {
            hours += n;
            Check.due("pass(" + n + ")", x.pass(n), hours);
            Check.due("count(4)", x.count(4), hours);
        }
        DonkeyVerdicts y = new DonkeyVerdicts();
        for (int i = 1; i <= 512; i++) {
            Check.due("pass(24) for the time " + i, y.pass(24), 24 * i);
        }
        // n hours at once are n times one; keep and back let go of what could be undone
        for (int n = 1; n <= 24; n++) {
            DonkeyVerdicts once = Busy.made();
            DonkeyVerdicts each = Busy.made();
            once.pass(n);
            for (int i = 0; i < n; i++) {
                each.pass(1);
            }
            once.keep();
            once.back();
            each.keep();
            each.back();
            Check.same(n + " hours", Look.whole(once), Look.whole(each));
        }
    }

    private static void lengthTimesPace() {
        Check.holds(12, "it sets out on the first WAY of PATH to where it goes, which takes L times P HOURS; it has an HOUR less to go; with none left it is in that PLACE");
        for (int length = 1; length <= 9; length++) {
            for (int pace = 1; pace <= 3; pace++) {
                DonkeyVerdicts x = Check.laid("w0,1," + length + ";d0,1;b3," + pace + ",0;");
                x.send(0, 5, 0);
                int hours = length * pace;
                if (hours > 24) {
                    x.pass(3);
                }
                if (hours > 1) {
                    x.pass(hours > 24 ? hours - 4 : hours - 1);
                    Check.beast("an hour ahead of " + hours, x, 0, 1, 1, 0, 1, 1, 0);
                }
                x.pass(1);
                Check.beast("behind " + hours, x, 0, 1, 2, 1, NONE, 0, 0);
            }
        }
    }

    private static void paths() {
        Check.holds(12, "PATH from one PLACE to another one: of ways along WAYS that of the least L in sum, of several that whose next PLACE is lowest.");
        // 4 directly, 4 over 1, 4 over 2 and 3: over 1; home directly
        goesOver("w0,4,4;w0,1,3;w1,4,1;w0,2,1;w2,3,1;w3,4,2;", 1, 3, 0, 4);
        // 4 directly, 5 over 1: directly
        goesOver("w0,4,4;w0,1,4;w1,4,1;", 4, 4, 0, 4);
        // 5 directly, 4 over three: over three
        goesOver("w0,4,5;w0,1,1;w1,2,1;w2,3,1;w3,4,1;", 1, 1, 3, 1);
        // over 3 and 2 it is as long as over 2 alone: over 2
        goesOver("w0,3,1;w3,2,1;w0,2,2;w2,4,1;", 2, 2, 2, 1);
        // of 8 places, with a way to 7 that is as long as the one to 2 (and 4, 5, 6)
        goesOver("n8;w0,7,3;w0,1,1;w1,4,3;w3,7,3;w4,7,3;w5,7,3;", 1, 1, 1, 3);
        // long ways
        goesOver("w0,1,9;w1,2,9;w2,3,9;w3,4,9;", 1, 9, 3, 9);
    }

    /** Sent to 4, in which place it is first, behind how many hours; likewise on its way home. */
    private static void goesOver(String ways, int first, int hours, int back, int hoursBack) {
        DonkeyVerdicts x = Check.laid(ways + "d0,4;b3,1,0;");
        x.send(0, 0, 0);
        Check.due("next(0, 0) by " + ways, x.next(0, 0), first);
        x.pass(hours);
        Check.due("first by " + ways, x.beast(0, 4), first);
        Check.due("first by " + ways, x.beast(0, 5), NONE);
        x.pass(24);
        x.pass(24);
        x.home(0);
        Check.due("next(0, 0) home by " + ways, x.next(0, 0), back);
        x.pass(hoursBack);
        Check.due("first home by " + ways, x.beast(0, 4), back);
        Check.due("first home by " + ways, x.beast(0, 5), NONE);
    }

    private static void theLowestEatsFirst() {
        Check.holds(12, "In an HOUR each BEAST that GOES, or GOES HOME, 0 first");
        for (int carrots = 0; carrots <= 5; carrots++) {
            DonkeyVerdicts x = Check.laid("w0,1,1;w1,2,1;d0,2;" + "b1,1,0;".repeat(5) + "c1," + carrots + ";");
            for (int b = 4; b >= 0; b--) {
                x.send(b, 7, 0);
            }
            x.pass(1);
            for (int b = 0; b < 5; b++) {
                int eats = b < carrots ? 1 : 0;
                Check.due(carrots + " carrots: sign(" + b + ", 1)", x.sign(b, 1), eats);
                Check.due(carrots + " carrots: beast(" + b + ", 6)", x.beast(b, 6), eats);
            }
            Check.due(carrots + " carrots: place(1, 0)", x.place(1, 0), 0);
        }
        // one that goes home and one that goes: the lower eats, whichever that is
        DonkeyVerdicts y = Check.laid("w0,1,1;w1,2,1;d0,2;b1,1,0;b1,1,0;");
        y.send(1, 7, 0);
        y.pass(2);
        y.home(1);
        y.send(0, 7, 0);
        y.carrots(1, 1);
        y.pass(1);
        Check.beast("0 goes, eats", y, 0, 1, 1, 1, NONE, 1, 0);
        Check.beast("1 goes home, does not eat", y, 1, 1, 3, 1, NONE, 0, NONE);
        // a carrot laid behind its coming is not eaten
        y.carrots(1, 9);
        y.pass(1);
        Check.due("place(1, 0), laid too late", y.place(1, 0), 9);
        Check.due("sign(0, 1), laid too late", y.sign(0, 1), 1);
    }

    private static void whoEatsAndLingers() {
        Check.holds(12, "There, at once, if there is a CARROT, and it is not OLD, it EATS one (there is one less), and WAITS for 1 HOUR; if there is a MARE, and it is a DONKEY or a FOAL, it LINGERS, and WAITS for 2 HOURS (more)");
        // by kind: hours of waiting with a carrot, with a mare, with both
        int[][] waits = {{1, 2, 3}, {1, 0, 1}, {1, 2, 3}, {0, 0, 0}};
        String[] there = {"c1,1;", "m1;", "c1,1;m1;"};
        for (int kind = 0; kind < 4; kind++) {
            for (int i = 0; i < 3; i++) {
                DonkeyVerdicts x = Check.laid("w0,1,1;w1,2,1;d0,2;b" + kind + ",1,0;" + there[i]);
                String when = "kind " + kind + ", " + there[i];
                x.send(0, 7, 0);
                x.pass(1);
                Check.beast(when, x, 0, 1, 1, 1, NONE, waits[kind][i], 0);
                Check.due(when + " place(1, 0)", x.place(1, 0), kind == 3 && i != 1 ? 1 : 0);
                if (waits[kind][i] > 0) {
                    x.pass(waits[kind][i]);
                    Check.beast(when + " waited", x, 0, 1, 1, 1, NONE, 0, 0);
                }
                x.pass(1);
                Check.beast(when + " there", x, 0, 1, 2, 2, NONE, 0, 0);
            }
        }
        DonkeyVerdicts y = Check.laid("w0,1,1;w1,2,1;d0,2;b0,1,0;c1,9;");
        y.send(0, 7, 0);
        y.pass(1);
        Check.due("place(1, 0), one of 9 eaten", y.place(1, 0), 8);
        Check.due("sign(0, 1), one of 9 eaten", y.sign(0, 1), 1);
        y.pass(24);
        Check.due("place(1, 0), no more eaten", y.place(1, 0), 8);
    }

    private static void waitingDoesNoMore() {
        Check.holds(12, "if it WAITS, it WAITS for one HOUR less, and does no more. Else, if it is in a PLACE, it sets out");
        // 3 hours of waiting, the last of which sets out nowhere; the way of an hour takes the 4th
        DonkeyVerdicts x = Check.laid("w0,1,1;w1,2,1;d0,2;b2,1,0;c1,9;m1;");
        x.send(0, 7, 0);
        x.pass(1);
        for (int left = 3; left >= 0; left--) {
            Check.beast("waits", x, 0, 1, 1, 1, NONE, left, 0);
            Check.due("arrives(0)", x.arrives(0), left + 1);
            Check.due("place(1, 0), it eats once", x.place(1, 0), 8);
            Check.due("sign(0, 2), it lingers once", x.sign(0, 2), 1);
            x.pass(1);
        }
        Check.beast("stands", x, 0, 1, 2, 2, NONE, 0, 0);
        // likewise on its way home
        x.home(0);
        x.pass(1);
        for (int left = 3; left >= 0; left--) {
            Check.beast("waits on its way home", x, 0, 1, 3, 1, NONE, left, NONE);
            Check.due("place(1, 0), it eats once", x.place(1, 0), 7);
            x.pass(1);
        }
        Check.beast("free", x, 0, 1, 0, 0, NONE, 0, NONE);
    }

    private static void whereItGoesItDoesNotWait() {
        Check.holds(12, "In the PLACE to which it goes it does not WAIT: it STANDS there (GOES HOME: it is FREE).");
        DonkeyVerdicts x = Check.laid("w0,1,1;d0,1;b0,1,0;c1,1;m1;c0,2;m0;");
        x.send(0, 7, 0);
        x.pass(1);
        Check.beast("stands", x, 0, 1, 2, 1, NONE, 0, 0);
        Check.due("place(1, 0), eaten there", x.place(1, 0), 0);
        Check.due("sign(0, 0), 7 less 3", x.sign(0, 0), 4);
        x.carrots(1, 5);
        x.pass(24);
        Check.beast("stands still", x, 0, 1, 2, 1, NONE, 0, 0);
        Check.due("place(1, 0), it stands there", x.place(1, 0), 5);
        x.home(0);
        x.pass(1);
        Check.beast("free", x, 0, 1, 0, 0, NONE, 0, NONE);
        Check.due("send at once", x.send(0, 7, 0), 2);
    }

    private static void doorInTheCourt() {
        Check.holds(12, "One whose DOOR is in the COURT STANDS behind its first HOUR, having set out nowhere, neither EATING nor LINGERING; likewise one called home from there is FREE.");
        for (int pace = 1; pace <= 3; pace++) {
            DonkeyVerdicts x = Check.laid("w0,1,1;d0,0;b0," + pace + ",0;c0,9;m0;");
            x.send(0, 7, 0);
            Check.beast("sent", x, 0, 1, 1, 0, NONE, 0, 0);
            x.pass(1);
            Check.beast("stands", x, 0, 1, 2, 0, NONE, 0, 0);
            Check.due("sign(0, 0)", x.sign(0, 0), 7);
            Check.due("sign(0, 1)", x.sign(0, 1), 0);
            Check.due("sign(0, 2)", x.sign(0, 2), 0);
            Check.due("home(0)", x.home(0), 7);
            Check.beast("called home", x, 0, 1, 3, 0, NONE, 0, NONE);
            Check.due("place(0, 2)", x.place(0, 2), 1);
            x.pass(1);
            Check.beast("free", x, 0, 1, 0, 0, NONE, 0, NONE);
            Check.due("place(0, 0)", x.place(0, 0), 9);
        }
    }

    private static void wrongCallsHome() {
        Check.holds(13, "One is called home: what was READ of it. BAD; NO: it does not STAND.");
        for (int none : new int[] {-1, 5, 256, 1 << 30, MIN, MAX}) {
            bad("home(" + none + ")", x -> x.home(none));
        }
        DonkeyVerdicts one = Check.laid("d0,0;b0,1,0;");
        Check.due("home(1) of one", one.home(1), BAD);
        Check.due("home(0), free", one.home(0), NO);
    }

    private static void refusedCallsHome() {
        Check.holds(13, "One that STANDS is called home: it GOES HOME.");
        Busy.refused("home(0), waiting", NO, x -> x.home(0));
        Busy.refused("home(1), on a way", NO, x -> x.home(1));
        Busy.refused("home(2), free", NO, x -> x.home(2));
        Busy.refused("home(4), going home", NO, x -> x.home(4));
        DonkeyVerdicts x = Busy.made();
        Check.due("home(3), standing", x.home(3), 2);
        Check.beast("called home", x, 3, 3, 3, 0, NONE, 0, NONE);
        Check.due("count(10)", x.count(10), 8);
        Check.due("home(3) once more", x.home(3), NO);
        Check.due("count(10), refused", x.count(10), 8);
    }

    private static void readByKind() {
        Check.holds(13, "It is READ by a PLAIN one as it is, a BLIND one without its lowest bit, a CONSTABLE as 4 at least, a LAWYER as half, cut.");
        int[][] read = {{0, 1, 2, 3, 4, 5, 6, 7}, {0, 0, 2, 2, 4, 4, 6, 6}, {4, 4, 4, 4, 4, 5, 6, 7}, {0, 0, 1, 1, 2, 2, 3, 3}};
        for (int kind = 0; kind < 4; kind++) {
            for (int v = 0; v < 8; v++) {
                DonkeyVerdicts x = Check.laid("w0,1,1;d" + kind + ",0;d" + kind + ",1;b3,1,0;b3,1,0;");
                x.send(0, v, 0);
                x.send(1, v, 1);
                x.pass(1);
                Check.due("kind " + kind + ", sign " + v + ", in the court", x.home(0), read[kind][v]);
                Check.due("kind " + kind + ", sign " + v, x.home(1), read[kind][v]);
            }
        }
    }

    private static void wayHome() {
        Check.holds(13, "it GOES HOME");
        // carrots and mares keep it on its way home, too, and the next verdict knows nothing of them
        DonkeyVerdicts x = Check.laid("w0,1,1;w1,2,2;d0,2;b0,2,0;m1;");
        x.send(0, 7, 0);
        x.pass(8);
        Check.beast("there", x, 0, 1, 2, 2, NONE, 0, 0);
        Check.due("home(0)", x.home(0), 5);
        x.carrots(1, 2);
        x.pass(3);
        Check.beast("on the last hour to 1", x, 0, 1, 3, 2, 1, 1, NONE);
        x.pass(1);
        Check.beast("in 1", x, 0, 1, 3, 1, NONE, 3, NONE);
        Check.due("place(1, 0)", x.place(1, 0), 1);
        x.pass(5);
        Check.beast("home", x, 0, 1, 0, 0, NONE, 0, NONE);
        x.send(0, 7, 0);
        Check.due("sign(0, 0), sent anew", x.sign(0, 0), 7);
        Check.due("sign(0, 1), sent anew", x.sign(0, 1), 0);
        Check.due("sign(0, 2), sent anew", x.sign(0, 2), 0);
    }

    private static void wrongCarrots() {
        Check.holds(14, "CARROTS of a PLACE: how many there were. BAD.");
        for (int none : new int[] {-1, 8, 256, 1 << 30, MIN, MAX}) {
            bad("carrots(" + none + ", 0)", x -> x.carrots(none, 0));
        }
        for (int none : new int[] {-1, 10, 256, MIN, MAX}) {
            bad("carrots(7, " + none + ")", x -> x.carrots(7, none));
        }
        bad("carrots(8, 10)", x -> x.carrots(8, 10));
        DonkeyVerdicts one = Check.laid("n1;d0,0;b0,1,0;");
        Check.due("carrots(0, 9) of one place", one.carrots(0, 9), 0);
        Check.due("carrots(1, 9) of one place", one.carrots(1, 9), BAD);
        Check.due("count(9) of one place", one.count(9), 9);
    }

    private static void carrotsLaidAndTakenUp() {
        Check.holds(14, "CARROTS of a PLACE are laid or taken up: there are C (0 to 9) then.");
        DonkeyVerdicts x = Check.laid("n8;c7,4;d0,0;b0,1,0;");
        int[] amounts = {9, 9, 0, 0, 1, 8, 9, 0};
        int before = 4;
        for (int amount : amounts) {
            Check.due("carrots(7, " + amount + ")", x.carrots(7, amount), before);
            Check.due("place(7, 0)", x.place(7, 0), amount);
            Check.due("place(6, 0)", x.place(6, 0), 0);
            Check.due("count(9)", x.count(9), amount);
            before = amount;
        }
        for (int p = 0; p < 8; p++) {
            x.carrots(p, 9);
        }
        Check.due("count(9), 9 in each", x.count(9), 72);
    }

    private static void nothingToUndo() {
        Check.holds(15, "UNDONE: how many more can be. NO.");
        Look.refused("undo() of nothing", NO, DonkeyVerdicts::new, DonkeyVerdicts::undo);
        Look.refused("undo() of a court just laid", NO, () -> Check.laid(Busy.TEXT), DonkeyVerdicts::undo);
        Look.refused("undo() behind back()", NO, HourEdges::backAgain, DonkeyVerdicts::undo);
        Look.refused("undo() of all, and once more", NO, HourEdges::allUndone, DonkeyVerdicts::undo);
        DonkeyVerdicts x = allUndone();
        Check.same("all undone", Look.now(x), Look.now(keptOnly()));
    }

    private static DonkeyVerdicts backAgain() {
        DonkeyVerdicts x = Busy.made();
        x.back();
        return x;
    }

    private static DonkeyVerdicts allUndone() {
        DonkeyVerdicts x = Busy.made();
        for (int left = 6; left >= 0; left--) {
            Check.due("undo()", x.undo(), left);
        }
        return x;
    }

    private static DonkeyVerdicts keptOnly() {
        DonkeyVerdicts x = Check.laid(Busy.TEXT);
        x.keep();
        x.write('m');
        x.write('3');
        x.write(';');
        return x;
    }

    private static void theLastEight() {
        Check.holds(15, "UNDONE are the latest of these, of HOURS (the last 8 can be).");
        for (int acts = 1; acts <= 20; acts++) {
            DonkeyVerdicts x = new DonkeyVerdicts();
            for (int i = 0; i < acts; i++) {
                x.carrots(0, i % 10);
            }
            int most = Math.min(acts, 8);
            Check.due("count(10) behind " + acts, x.count(10), most);
            for (int left = most - 1; left >= 0; left--) {
                Check.due("undo() behind " + acts, x.undo(), left);
                int done = acts - most + left;
                Check.due("place(0, 0) behind " + done, x.place(0, 0), done == 0 ? 0 : (done - 1) % 10);
                Check.due("count(10)", x.count(10), left);
            }
            Check.due("undo(), none left", x.undo(), NO);
            Check.due("count(10), none left", x.count(10), 0);
        }
        // some undone, then more done: those undone are gone, and 8 are the most once more
        DonkeyVerdicts y = new DonkeyVerdicts();
        for (int i = 1; i <= 8; i++) {
            y.carrots(0, i);
        }
        for (int i = 0; i < 5; i++) {
            y.undo();
        }
        Check.due("place(0, 0), 3 are left", y.place(0, 0), 3);
        for (int i = 4; i <= 9; i++) {
            Check.due("carrots(1, " + i + ")", y.carrots(1, i), i == 4 ? 0 : i - 1);
            Check.due("count(10)", y.count(10), Math.min(i, 8));
        }
        int[] ones = {8, 7, 6, 5, 4, 0, 0, 0};
        int[] zeros = {3, 3, 3, 3, 3, 3, 2, 1};
        for (int i = 0; i < 8; i++) {
            Check.due("undo()", y.undo(), 7 - i);
            Check.due("place(1, 0)", y.place(1, 0), ones[i]);
            Check.due("place(0, 0)", y.place(0, 0), zeros[i]);
        }
        Check.due("undo(), none left", y.undo(), NO);
    }

    private static void eachIsUndone() {
        Check.holds(15, "UNDONE are the latest of these, of HOURS");
        undone("send(2, 7, 1)", x -> x.send(2, 7, 1));
        undone("send(2, 0, 3)", x -> x.send(2, 0, 3));
        undone("pass(1)", x -> x.pass(1));
        undone("pass(24)", x -> x.pass(24));
        undone("home(3)", x -> x.home(3));
        undone("carrots(5, 9), as many", x -> x.carrots(5, 9));
        undone("carrots(1, 0)", x -> x.carrots(1, 0));
    }

    /** The 8th act is done and undone, and all is as it was. */
    private static void undone(String call, ToIntFunction<DonkeyVerdicts> act) {
        DonkeyVerdicts x = Busy.made();
        Check.due(call + " is done", act.applyAsInt(x) >= 0 ? 1 : 0, 1);
        Check.due("count(10) behind " + call, x.count(10), 8);
        Check.due("undo() of " + call, x.undo(), 7);
        Check.same(call + " undone", Look.whole(x), Look.whole(Busy.made()));
    }

    private static void whatIsNotUndone() {
        Check.holds(15, "10 that can be UNDONE");
        DonkeyVerdicts x = Busy.made();
        x.keep();
        x.write('x');
        x.wipe();
        x.lure(0);
        x.year(0, 60, 0);
        x.deal(0, -1);
        Check.due("count(10), nothing done", x.count(10), 7);
        Check.due("undo()", x.undo(), 6);
        Check.due("count(11), kept still", x.count(11), 2);
        Check.due("count(12), wiped still", x.count(12), 0);
        Check.due("place(5, 0), the carrots are undone", x.place(5, 0), 0);
    }
}
