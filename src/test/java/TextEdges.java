/** The edges of promises 1 to 5: a new object, writing, wiping, faults, laying. */
final class TextEdges {
    private static final int BAD = DonkeyVerdicts.BAD, NO = DonkeyVerdicts.NO;
    private static final int FULL = DonkeyVerdicts.FULL, NONE = DonkeyVerdicts.NONE;
    private static final int MIN = Integer.MIN_VALUE, MAX = Integer.MAX_VALUE;
    private static final String FIRST = "n7;w0,1,2;w1,2,3;w2,3,1;w1,4,4;w4,5,2;w3,5,5;w0,6,6;w6,3,2;"
        + "d0,3;d1,5;d2,4;d3,2;b0,1,3;b1,2,5;b2,1,7;b3,3,2;c2,1;c4,2;m4;";

    private TextEdges() { }

    static void run() {
        newObject();
        theLastCall();
        letters();
        fullText();
        wiping();
        figures();
        signsOfAnItem();
        placesItem();
        placesItemFirst();
        wayItem();
        doorItem();
        beastItem();
        carrotItem();
        mareItem();
        placeOfTheFault();
        longTexts();
        refusedLaying();
        laidAnew();
        smallestAndLargest();
        nothingOfTheOldCourt();
    }

    private static String times(int n, String item) {
        return item.repeat(n);
    }

    private static void fault(String text, int want) {
        Check.due("fault() of " + text, Check.written(text).fault(), want);
    }

    private static void newObject() {
        Check.holds(1, "BAD = -1, NO = -2, FULL = -3, NONE = -4");
        Check.due("BAD", BAD, -1);
        Check.due("NO", NO, -2);
        Check.due("FULL", FULL, -3);
        Check.due("NONE", NONE, -4);
        Check.holds(1, "at first " + FIRST + ")");
        DonkeyVerdicts laid = Check.laid(FIRST);
        laid.wipe();
        Check.same("a new object", Look.now(new DonkeyVerdicts()), Look.now(laid));
        DonkeyVerdicts x = new DonkeyVerdicts();
        for (int a = 0; a < 7; a++) {
            for (int b = 0; b < 7; b++) {
                Check.due("way(" + a + ", " + b + ")", x.way(a, b), laid.way(a, b));
            }
        }
        for (int i = 0; i < 4; i++) {
            Check.due("door(" + i + ", 0)", x.door(i, 0), i);
            Check.due("beast(" + i + ", 0)", x.beast(i, 0), i);
            Check.due("door(" + i + ", 1)", x.door(i, 1), laid.door(i, 1));
            Check.due("beast(" + i + ", 1)", x.beast(i, 1), laid.beast(i, 1));
        }
        Check.holds(1, "`DonkeyVerdicts()`: As told.");
        Check.due("wipe() of no text", x.wipe(), 0);
        Check.due("fault() of no text", x.fault(), NONE);
        Check.due("lay() of no text", x.lay(), NO);
        Check.due("undo() of nothing", x.undo(), NO);
        Check.due("back() to nothing", x.back(), NO);
        x.send(0, 0, 0);
        x.write('m');
        Check.same("one more new object", Look.now(new DonkeyVerdicts()), Look.now(laid));
    }

    private static void theLastCall() {
        Check.holds(1, "An object is used for at most 512 calls after it has been made; what later calls answer is free.");
        DonkeyVerdicts hours = new DonkeyVerdicts();
        for (int call = 1; call <= 511; call++) {
            Check.due("pass(24), call " + call, hours.pass(24), 24 * call);
        }
        Check.due("count(4), call 512", hours.count(4), 24 * 511);
        DonkeyVerdicts letters = new DonkeyVerdicts();
        for (int call = 1; call <= 511; call++) {
            Check.due("write, call " + call, letters.write('m'), call <= 200 ? call : FULL);
        }
        Check.due("wipe(), call 512", letters.wipe(), 200);
        DonkeyVerdicts carrots = new DonkeyVerdicts();
        for (int call = 1; call <= 504; call++) {
            Check.due("carrots, call " + call, carrots.carrots(6, call % 10), call == 1 ? 0 : (call - 1) % 10);
        }
        for (int left = 7; left >= 1; left--) {
            Check.due("undo(), " + left + " left", carrots.undo(), left);
        }
        // the last 7 of 504 are undone: it is as behind call 497
        Check.due("place(6, 0), call 512", carrots.place(6, 0), 7);
    }

    private static void letters() {
        Check.holds(2, "A letter (32 to 126, as in ASCII) comes behind THE TEXT: how long it is. BAD; FULL.");
        DonkeyVerdicts x = new DonkeyVerdicts();
        for (int letter = 32; letter <= 126; letter++) {
            Check.due("write(" + letter + ")", x.write(letter), letter - 31);
        }
        int[] none = {31, 127, 0, -1, 10, 128, 255, 32 + 256, 110 + 65536, -96, MIN, MIN + 109, MAX};
        for (int letter : none) {
            Busy.refused("write(" + letter + ")", BAD, y -> y.write(letter));
        }
        DonkeyVerdicts z = Check.written("m4;m");
        z.write(127);
        z.write('5');
        z.write(31);
        z.write(';');
        Check.due("fault() of m4;m5;", z.fault(), 3);
        Check.due("count(12) of m4;m5;", z.count(12), 6);
    }

    private static void fullText() {
        Check.holds(2, "A TEXT is letters (200 at most)");
        DonkeyVerdicts x = Check.written(times(199, "m"));
        Check.due("letter 200", x.write(126), 200);
        Check.due("letter 201", x.write('m'), FULL);
        Check.due("letter 201 once more", x.write(32), FULL);
        Check.due("count(12), full", x.count(12), 200);
        Check.due("wipe(), full", x.wipe(), 200);
        Check.due("letter 1 again", x.write('m'), 1);
        Check.holds(2, "FULL. Of several the first; nothing changes then.");
        DonkeyVerdicts y = Check.written(times(60, "m0;") + "d0,0;b0,1,9;c0,5;m1;");
        Check.due("letter 201, ;", y.write(';'), FULL);
        Check.due("letter 201, none", y.write(31), BAD);
        Check.due("letter 201, none", y.write(127), BAD);
        Check.due("count(12), full", y.count(12), 200);
        Check.due("fault(), full", y.fault(), NONE);
        Check.due("lay(), full", y.lay(), 1);
        Check.due("count(12), full and laid", y.count(12), 200);
        Check.due("place(0, 0)", y.place(0, 0), 5);
        Check.due("place(1, 1)", y.place(1, 1), 1);
        Check.due("letter 201 behind lay()", y.write('m'), FULL);
    }

    private static void wiping() {
        Check.holds(3, "THE TEXT is empty: how long it was.");
        DonkeyVerdicts x = new DonkeyVerdicts();
        Check.due("wipe() of none", x.wipe(), 0);
        x.write('m');
        Check.due("wipe() of one", x.wipe(), 1);
        Check.due("wipe() once more", x.wipe(), 0);
        Check.due("count(12)", x.count(12), 0);
        Check.rewrite(x, "x");
        Check.due("fault()", x.fault(), 0);
        x.wipe();
        Check.due("fault() of a wiped text", x.fault(), NONE);
        Check.due("lay() of a wiped text", x.lay(), NO);
        DonkeyVerdicts y = Busy.made();
        DonkeyVerdicts z = Busy.made();
        Check.due("wipe() of a busy one", y.wipe(), 90);
        Check.rewrite(y, Busy.TEXT + "m3;");
        Check.same("wiped and written again", Look.whole(y), Look.whole(z));
    }

    private static void figures() {
        Check.holds(4, "then numbers (one or two figures)");
        fault("m;", 0);
        fault("m0;", NONE);
        fault("m00;", NONE);
        fault("m04;", NONE);
        fault("m000;", 0);
        fault("m004;", 0);
        fault("m05;", 0);
        fault("m10;", 0);
        fault("m99;", 0);
        fault("c4,;", 0);
        fault("c4,09;", NONE);
        fault("c4,009;", 0);
        fault("c,9;", 0);
        fault("c04,9;", NONE);
        fault("c004,9;", 0);
        fault("w00,01,01;", NONE);
        fault("w0,1,001;", 0);
        fault("w0,1,;", 0);
        fault("w0,,1;", 0);
        fault("w,0,1;", 0);
        fault("n08;m7;", NONE);
        fault("n008;", 0);
        fault("m/;", 0);
        fault("m:;", 0);
        fault("m4" + times(20, "4") + ";", 0);
    }

    private static void signsOfAnItem() {
        Check.holds(4, "each a letter, then numbers (one or two figures) parted by , and a ; behind the last one");
        fault("", NONE);
        fault("m", 0);
        fault("m1", 0);
        fault("m1,", 0);
        fault("m1;", NONE);
        fault(";", 0);
        fault(",", 0);
        fault("1;", 0);
        fault("1m;", 0);
        fault("m1;;", 3);
        fault("m1;,", 3);
        fault("m1; ", 3);
        fault("m 1;", 0);
        fault("m1 ;", 0);
        fault(" m1;", 0);
        fault("m1.", 0);
        fault("c1.2;", 0);
        fault("c1;2;", 0);
        fault("c1 2;", 0);
        fault("mm1;", 0);
        fault("m-1;", 0);
        fault("m+1;", 0);
        fault("M1;", 0);
        fault("a1;", 0);
        fault("z1;", 0);
        fault("~1;", 0);
        // one number too few, one too many, of each item
        fault("n;", 0);
        fault("n1,1;", 0);
        fault("w0,1;", 0);
        fault("w0,1,1,1;", 0);
        fault("d0;", 0);
        fault("d0,0,0;", 0);
        fault("b0,1;", 0);
        fault("b0,1,0,0;", 0);
        fault("c0;", 0);
        fault("c0,0,0;", 0);
        fault("m0,0;", 0);
        fault("m0,0,0;", 0);
        fault("m0,0,0,0;", 0);
    }

    private static void placesItem() {
        Check.holds(4, "nN there are N (1 to 8) PLACES (5 without;");
        fault("n0;", 0);
        fault("n1;", NONE);
        fault("n8;", NONE);
        fault("n9;", 0);
        fault("n10;", 0);
        fault("n81;", 0);
        for (int n = 1; n <= 8; n++) {
            fault("n" + n + ";m" + (n - 1) + ";", NONE);
            fault("n" + n + ";m" + n + ";", 3);
            DonkeyVerdicts x = Check.laid("n" + n + ";d0,0;b0,1,0;");
            Check.due("count(0) of n" + n, x.count(0), n);
        }
        fault("m4;", NONE);
        fault("m5;", 0);
        Check.due("count(0) without n", Check.laid("d0,0;b0,1,0;").count(0), 5);
    }

    private static void placesItemFirst() {
        Check.holds(4, "no other ITEM ahead of it but n)");
        String[] ahead = {"w0,1,1;", "d0,0;", "b0,1,0;", "c0,0;", "m0;"};
        for (String item : ahead) {
            fault(item + "n5;", item.length());
            fault("n5;" + item + "n5;", 3 + item.length());
            fault("n5;" + item, NONE);
        }
        fault("n3;n3;", NONE);
        fault("n2;n8;n3;m2;", NONE);
        fault("n2;n8;n3;m3;", 9);
        fault("n8;n0;", 3);
        fault("n1;n9;n1;", 3);
        Check.due("count(0), the last n", Check.laid("n2;n8;n3;d0,0;b0,1,0;").count(0), 3);
    }

    private static void wayItem() {
        Check.holds(4, "wA,B,L a WAY of L (1 to 9) between PLACES A and B (unlike; the last one of both)");
        fault("w0,1,0;", 0);
        fault("w0,1,1;", NONE);
        fault("w0,1,9;", NONE);
        fault("w0,1,10;", 0);
        fault("w0,0,1;", 0);
        fault("w4,4,1;", 0);
        fault("w4,0,1;", NONE);
        fault("w5,0,1;", 0);
        fault("w0,4,1;", NONE);
        fault("w0,5,1;", 0);
        fault("w5,5,1;", 0);
        fault("n1;w0,0,1;", 3);
        fault("n1;w0,1,1;", 3);
        fault("n2;w1,0,1;", NONE);
        fault("n8;w6,7,9;w7,6,1;", NONE);
        fault("n8;w7,8,1;", 3);
        fault("n8;w8,7,1;", 3);
        DonkeyVerdicts x = Check.laid("w0,1,9;w2,1,4;w1,0,1;w1,2,6;w1,2,5;d0,0;b0,1,0;");
        Check.due("way(0, 1), the last of both", x.way(0, 1), 1);
        Check.due("way(1, 0), the last of both", x.way(1, 0), 1);
        Check.due("way(1, 2), the last of three", x.way(1, 2), 5);
        Check.due("way(2, 1), the last of three", x.way(2, 1), 5);
        Check.due("count(3), one for both", x.count(3), 2);
    }

    private static void doorItem() {
        Check.holds(4, "dK,X a DOOR in PLACE X, of one of KIND K (0 PLAIN, 1 BLIND, 2 CONSTABLE, 3 LAWYER); 4 at most, 0, 1, ..");
        fault("d0,0;", NONE);
        fault("d3,0;", NONE);
        fault("d4,0;", 0);
        fault("d10,0;", 0);
        fault("d0,4;", NONE);
        fault("d0,5;", 0);
        fault("n8;d0,7;", NONE);
        fault("n8;d0,8;", 3);
        fault("n1;d0,0;", NONE);
        fault("n1;d0,1;", 3);
        fault(times(4, "d0,0;"), NONE);
        fault(times(5, "d0,0;"), 20);
        fault(times(6, "d0,0;"), 20);
        fault(times(4, "d0,0;") + "m0;d3,4;", 23);
        DonkeyVerdicts x = Check.laid("d3,4;d2,3;d1,0;d0,1;b0,1,0;");
        for (int d = 0; d < 4; d++) {
            Check.due("door(" + d + ", 0)", x.door(d, 0), 3 - d);
        }
        int[] places = {4, 3, 0, 1};
        for (int d = 0; d < 4; d++) {
            Check.due("door(" + d + ", 1)", x.door(d, 1), places[d]);
        }
    }

    private static void beastItem() {
        Check.holds(4, "bK,P,M a BEAST of KIND K (0 DONKEY, 1 MULE, 2 FOAL, 3 OLD), of PACE P (1 to 3), of MOOD M (0 to 9); 5 at most, 0, 1, ..");
        fault("b0,1,0;", NONE);
        fault("b3,1,0;", NONE);
        fault("b4,1,0;", 0);
        fault("b0,0,0;", 0);
        fault("b0,3,0;", NONE);
        fault("b0,4,0;", 0);
        fault("b0,1,9;", NONE);
        fault("b0,1,10;", 0);
        fault(times(5, "b0,1,0;"), NONE);
        fault(times(6, "b0,1,0;"), 35);
        fault(times(5, "b0,1,0;") + "m0;b3,3,9;", 38);
        DonkeyVerdicts x = Check.laid("d0,0;b3,3,9;b2,2,8;b1,1,0;b0,3,1;b3,1,5;");
        int[][] told = {{3, 3, 9}, {2, 2, 8}, {1, 1, 0}, {0, 3, 1}, {3, 1, 5}};
        for (int b = 0; b < 5; b++) {
            for (int what = 0; what < 3; what++) {
                Check.due("beast(" + b + ", " + what + ")", x.beast(b, what), told[b][what]);
            }
        }
    }

    private static void carrotItem() {
        Check.holds(4, "cX,C there are C (0 to 9) CARROTS in PLACE X (none without; the last one)");
        fault("c0,0;", NONE);
        fault("c0,9;", NONE);
        fault("c0,10;", 0);
        fault("c0,99;", 0);
        fault("c4,1;", NONE);
        fault("c5,1;", 0);
        fault("n8;c7,9;", NONE);
        fault("n8;c8,0;", 3);
        DonkeyVerdicts x = Check.laid("c0,9;c4,9;c4,1;c3,1;c3,0;d0,0;b0,1,0;");
        int[] carrots = {9, 0, 0, 0, 1};
        for (int p = 0; p < 5; p++) {
            Check.due("place(" + p + ", 0)", x.place(p, 0), carrots[p]);
        }
        Check.due("count(9)", x.count(9), 10);
        DonkeyVerdicts most = Check.laid("n8;" + carrotsEverywhere() + "d0,0;b0,1,0;");
        Check.due("count(9), 9 in each of 8", most.count(9), 72);
    }

    private static String carrotsEverywhere() {
        StringBuilder items = new StringBuilder();
        for (int p = 0; p < 8; p++) {
            items.append('c').append(p).append(",9;");
        }
        return items.toString();
    }

    private static void mareItem() {
        Check.holds(4, "mX there is a MARE in PLACE X (no matter if told once more)");
        fault("m0;", NONE);
        fault("m4;", NONE);
        fault("m5;", 0);
        fault("n8;m7;", NONE);
        fault("n8;m8;", 3);
        fault("m0;m0;m0;", NONE);
        DonkeyVerdicts x = Check.laid("m0;m4;m4;d0,0;b0,1,0;");
        int[] mares = {1, 0, 0, 0, 1};
        for (int p = 0; p < 5; p++) {
            Check.due("place(" + p + ", 1)", x.place(p, 1), mares[p]);
        }
    }

    private static void placeOfTheFault() {
        Check.holds(4, "FAULT: the place of the first letter of the first ITEM that is not so.");
        fault("x", 0);
        fault("m0;x", 3);
        fault("m0;m9;m8;", 3);
        fault("m9;m0;m8;", 0);
        fault("c0,0;w0,1,1;b0,0,0;d9,9;", 12);
        fault("d0,0;b0,1,0;m0", 12);
        fault("d0,0;b0,1,0;m", 12);
        fault("m0;n5;x", 3);
        fault("m5;n8;", 0);
        Check.holds(4, "FAULT. NONE.");
        fault("", NONE);
        fault("m0;", NONE);
        fault("n8;m7;", NONE);
        Busy.unchanged("fault()", DonkeyVerdicts::fault);
        DonkeyVerdicts x = Check.written("m0;m5;");
        Check.due("fault()", x.fault(), 3);
        Check.due("fault() once more", x.fault(), 3);
        Check.due("count(12)", x.count(12), 6);
    }

    private static void longTexts() {
        Check.holds(4, "A TEXT is letters (200 at most), ITEMS one behind the other");
        fault(times(65, "m0;") + "c0,0;", NONE);
        fault(times(66, "m0;") + "m0", 198);
        fault(times(66, "m0;") + "m", 198);
        fault(times(65, "m0;") + "m04;m", 199);
        fault(times(200, ";"), 0);
        fault("m" + times(199, "0"), 0);
        fault("w" + times(99, "1,") + ";", 0);
    }

    private static void refusedLaying() {
        Check.holds(5, "LAID is a TEXT without FAULT, of a DOOR and a BEAST at least (NO else;");
        String[] refused = {"", "n3;", "d0,1;", "b0,1,0;", "d0,1;b0,1,0;x", "x" + "d0,1;b0,1,0;", "d0,1;b0,1,0",
            "d0,1;b0,1,0;n3;", "d0,1;d0,1;m0;c0,1;w0,1,1;", times(5, "b0,1,0;"), times(4, "d0,1;"),
            times(5, "d0,1;") + "b0,1,0;", "d0,1;" + times(6, "b0,1,0;"), "n1;d0,1;b0,1,0;"};
        for (String text : refused) {
            Look.refused("lay() of " + text, NO, () -> shortlyBusy(text), DonkeyVerdicts::lay);
        }
        Check.due("lay() of both", Check.written("d0,0;b0,1,0;").lay(), 1);
        Check.due("lay() of both, the beast first", Check.written("b0,1,0;d0,0;").lay(), 1);
    }

    /** The first court with things under way, and another text. */
    private static DonkeyVerdicts shortlyBusy(String text) {
        DonkeyVerdicts x = new DonkeyVerdicts();
        x.send(0, 7, 2);
        x.send(1, 7, 3);
        x.pass(6);
        x.keep();
        x.home(0);
        x.carrots(1, 4);
        Check.rewrite(x, text);
        return x;
    }

    private static void laidAnew() {
        Check.holds(5, "LAID: how many BEASTS; hour 0, nothing UNDONE, KEPT; THE TEXT stays. NO.");
        for (int beasts = 1; beasts <= 5; beasts++) {
            Check.due("lay() of " + beasts, Check.written("d0,0;" + times(beasts, "b0,1,0;")).lay(), beasts);
        }
        String text = "w0,1,2;d0,1;b0,1,9;b1,1,8;c1,3;";
        DonkeyVerdicts x = shortlyBusy(text);
        Check.due("lay()", x.lay(), 2);
        Check.same("laid", Look.now(x), Look.now(Check.laid(text)));
        Check.due("count(4)", x.count(4), 0);
        Check.due("count(10)", x.count(10), 0);
        Check.due("count(11)", x.count(11), 0);
        Check.due("count(12)", x.count(12), text.length());
        Check.due("undo()", x.undo(), NO);
        Check.due("back()", x.back(), NO);
        x.send(0, 7, 0);
        x.pass(3);
        x.keep();
        x.keep();
        Check.due("lay() of the same text", x.lay(), 2);
        Check.same("laid once more", Look.whole(x), Look.whole(Check.laid(text)));
        Check.holds(5, "At first all BEASTS are FREE, in the COURT.");
        DonkeyVerdicts y = Check.laid("d0,3;" + times(5, "b3,1,4;"));
        for (int b = 0; b < 5; b++) {
            Check.beast("at first", y, b, 4, 0, 0, NONE, 0, NONE);
        }
    }

    private static void smallestAndLargest() {
        Check.holds(5, "0 is the COURT");
        DonkeyVerdicts x = Check.laid("n1;d0,0;b0,1,0;");
        int[] counts = {1, 1, 1, 0, 0, 1, 0, 0, 0, 0, 0, 0, 15};
        for (int what = 0; what < counts.length; what++) {
            Check.due("smallest: count(" + what + ")", x.count(what), counts[what]);
        }
        Check.due("smallest: place(0, 2)", x.place(0, 2), 1);
        Check.due("smallest: send", x.send(0, 7, 0), 1);
        x.pass(1);
        Check.due("smallest: home", x.home(0), 7);
        // all that 200 letters leave room for: 8 places, 4 doors, 5 beasts and 18 ways
        StringBuilder text = new StringBuilder("n8;" + times(4, "d0,7;") + times(5, "b3,3,9;") + "c7,9;");
        for (int step = 1; step <= 3; step++) {
            for (int i = 0; i + step < 8; i++) {
                text.append('w').append(i).append(',').append(i + step).append(",9;");
            }
        }
        text.append("m0;m7;");
        DonkeyVerdicts y = Check.laid(text.toString());
        int[] most = {8, 4, 5, 18, 0, 5, 0, 0, 0, 9, 0, 0, text.length()};
        for (int what = 0; what < most.length; what++) {
            Check.due("largest: count(" + what + ")", y.count(what), most[what]);
        }
    }

    private static void nothingOfTheOldCourt() {
        Check.holds(5, "(none without; the last one)");
        DonkeyVerdicts x = Check.laid("n8;w0,7,3;w1,2,9;c0,4;c7,9;m0;m7;d3,7;d2,0;b3,3,9;b3,3,9;");
        x.carrots(3, 6);
        Check.rewrite(x, "n8;d0,0;b0,1,0;");
        Check.due("lay()", x.lay(), 1);
        for (int p = 0; p < 8; p++) {
            Check.due("place(" + p + ", 0)", x.place(p, 0), 0);
            Check.due("place(" + p + ", 1)", x.place(p, 1), 0);
            Check.due("place(" + p + ", 2)", x.place(p, 2), p == 0 ? 1 : 0);
        }
        Check.due("way(0, 7)", x.way(0, 7), NONE);
        Check.due("way(1, 2)", x.way(1, 2), NONE);
        Check.due("count(3)", x.count(3), 0);
        Check.due("door(1, 0)", x.door(1, 0), BAD);
        Check.due("beast(1, 0)", x.beast(1, 0), BAD);
        Check.rewrite(x, "d0,0;b0,1,0;");
        x.lay();
        Check.due("count(0), 5 without", x.count(0), 5);
    }
}
