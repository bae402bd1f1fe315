/** Promises 16 to 26: what comes, and what was told. */
public final class ComingTest {
    private static final int BAD = DonkeyVerdicts.BAD, NO = DonkeyVerdicts.NO;
    private static final int NONE = DonkeyVerdicts.NONE;

    public static void main(String[] args) {
        arriving();
        tooFar();
        rightOnes();
        telling();
        dealing();
        luring();
        ahead();
        meeting();
        told();
        who();
        Check.finish();
    }

    private static void arriving() {
        DonkeyVerdicts x = new DonkeyVerdicts();
        Check.due("arrives(-1)", x.arrives(-1), BAD);
        Check.due("arrives(4)", x.arrives(4), BAD);
        Check.due("reading(-1)", x.reading(-1), BAD);
        Check.due("reading(4)", x.reading(4), BAD);
        Check.due("arrives(1), free", x.arrives(1), NO);
        Check.due("reading(1), free", x.reading(1), NO);
        x.send(1, 2, 1);
        // 4 hours to 1, 8 to 4, 1 for a carrot, 4 to 5; 7 less 2, 1 less
        Check.due("arrives(1)", x.arrives(1), 17);
        Check.due("reading(1)", x.reading(1), 4);
        // 0 and 2 are in 4 ahead of it, and eat what there is
        x.send(0, 2, 2);
        x.send(2, 2, 2);
        Check.due("arrives(1), none to eat", x.arrives(1), 16);
        Check.due("reading(1), none to eat", x.reading(1), 4);
        Check.due("nothing changed", x.count(4) + x.count(7), 0);
        x.pass(15);
        Check.due("arrives(1) at last", x.arrives(1), 1);
        x.pass(1);
        Check.due("arrives(1), standing", x.arrives(1), 0);
        Check.due("reading(1), standing", x.reading(1), 4);
        x.home(1);
        Check.due("arrives(1), going home", x.arrives(1), NO);
        Check.due("reading(1), going home", x.reading(1), NO);
    }

    private static void tooFar() {
        // 33 times 3 is 99 hours, 34 times 3 is too long
        String near = "n6;w0,1,9;w1,2,9;w2,3,9;w3,4,6;w4,5,1;d0,4;d0,5;b3,3,0;b1,3,0;";
        DonkeyVerdicts x = Check.laid(near);
        Check.due("right(0, 3)", x.right(0, 3), 3);
        Check.due("right(1, 3)", x.right(1, 3), 0);
        Check.due("soonest(0, 3)", x.soonest(0, 3), 0);
        Check.due("soonest(1, 3)", x.soonest(1, 3), NONE);
        Check.due("tell(0, 0, 3)", x.tell(0, 0, 3), 3);
        Check.due("tell(0, 1, 3)", x.tell(0, 1, 3), NONE);
        Check.due("who(0, 3, 0)", x.who(0, 3, 0), 2);
        Check.due("who(1, 3, 0)", x.who(1, 3, 0), 0);
        Check.due("who(1, 3, 1)", x.who(1, 3, 1), NONE);
        Check.due("deal(3, -1)", x.deal(3, -1), NONE);
        x.send(0, 3, 0);
        x.send(1, 3, 1);
        Check.due("arrives(0) in 99", x.arrives(0), 99);
        Check.due("reading(0) in 99", x.reading(0), 3);
        Check.due("arrives(1) in 102", x.arrives(1), NONE);
        Check.due("reading(1) in 102", x.reading(1), NONE);
        Check.due("lure(1) in 102", x.lure(1), NONE);
        x.pass(3);
        Check.due("arrives(1) in 99", x.arrives(1), 99);
        Check.due("lure(1) in 99, each carrot is an hour", x.lure(1), 5);
        DonkeyVerdicts y = Check.laid("w0,1,9;w1,2,9;w2,3,9;w3,4,6;d0,4;b1,3,0;");
        Check.due("deal(0, -1) in 99", y.deal(0, -1), 99);
        y.carrots(1, 1);
        Check.due("deal(0, -1) in 100", y.deal(0, -1), NONE);
        Check.due("right(0, 0) in 100", y.right(0, 0), 0);
        Check.due("tell(0, 0, 0) in 100", y.tell(0, 0, 0), NONE);
    }

    private static void rightOnes() {
        DonkeyVerdicts x = new DonkeyVerdicts();
        for (int d = -1; d <= 4; d += 5) {
            Check.due("right(" + d + ", 0)", x.right(d, 0), BAD);
            Check.due("soonest(" + d + ", 0)", x.soonest(d, 0), BAD);
        }
        for (int v = -1; v <= 8; v += 9) {
            Check.due("right(0, " + v + ")", x.right(0, v), BAD);
            Check.due("soonest(0, " + v + ")", x.soonest(0, v), BAD);
        }
        // the donkey loses 1 in 2, the foal gains and loses 1, the mule turns it
        Check.due("right(0, 4)", x.right(0, 4), 12);
        Check.due("soonest(0, 4)", x.soonest(0, 4), 2);
        x.carrots(2, 0);
        Check.due("right(0, 4), no carrots", x.right(0, 4), 9);
        Check.due("soonest(0, 4), no carrots", x.soonest(0, 4), 0);
        x.send(0, 0, 0);
        Check.due("right(0, 4), 0 sent", x.right(0, 4), 8);
        Check.due("soonest(0, 4), 0 sent", x.soonest(0, 4), 3);
        Check.due("nothing changed", x.count(6), 1);
        // one that goes already eats what another one would have eaten
        DonkeyVerdicts y = Check.laid("w0,1,2;w1,2,1;d0,2;b0,1,0;b0,1,0;c1,1;");
        Check.due("right(0, 7), a carrot", y.right(0, 7), 0);
        y.send(0, 7, 0);
        Check.due("right(0, 7), eaten by then", y.right(0, 7), 2);
        // alike in hours: the lowest
        DonkeyVerdicts z = Check.laid("w0,1,2;d0,1;b3,2,0;b1,1,2;b3,1,0;");
        Check.due("right(0, 7)", z.right(0, 7), 7);
        Check.due("soonest(0, 7)", z.soonest(0, 7), 1);
    }

    private static void telling() {
        DonkeyVerdicts x = new DonkeyVerdicts();
        Check.due("tell(-1, 0, 0)", x.tell(-1, 0, 0), BAD);
        Check.due("tell(4, 0, 0)", x.tell(4, 0, 0), BAD);
        Check.due("tell(0, -1, 0)", x.tell(0, -1, 0), BAD);
        Check.due("tell(0, 4, 0)", x.tell(0, 4, 0), BAD);
        Check.due("tell(0, 0, -1)", x.tell(0, 0, -1), BAD);
        Check.due("tell(0, 0, 8)", x.tell(0, 0, 8), BAD);
        Check.due("tell(0, 0, 0)", x.tell(0, 0, 0), 0);
        Check.due("tell(0, 0, 6)", x.tell(0, 0, 6), 7);
        Check.due("tell(0, 0, 7)", x.tell(0, 0, 7), NONE);
        Check.due("tell(2, 0, 7)", x.tell(2, 0, 7), NONE);
        Check.due("tell(2, 0, 6)", x.tell(2, 0, 6), 6);
        Check.due("tell(1, 0, 6)", x.tell(1, 0, 6), 0);
        Check.due("tell(3, 1, 5)", x.tell(3, 1, 5), NONE);
        Check.due("tell(3, 1, 6)", x.tell(3, 1, 6), 6);
        Check.due("tell(3, 2, 4)", x.tell(3, 2, 4), 0);
        Check.due("tell(3, 2, 3)", x.tell(3, 2, 3), NONE);
        Check.due("tell(3, 3, 3)", x.tell(3, 3, 3), 6);
        x.send(3, 0, 0);
        Check.due("tell(3, 3, 3), going", x.tell(3, 3, 3), NO);
        Check.due("tell(3, 4, 3), going", x.tell(3, 4, 3), BAD);
    }

    private static void dealing() {
        DonkeyVerdicts x = Check.laid("w0,1,2;w0,2,3;d0,1;d0,2;b3,3,0;b3,1,0;b3,2,0;");
        Check.due("deal(-1, 0)", x.deal(-1, 0), BAD);
        Check.due("deal(8, 0)", x.deal(8, 0), BAD);
        Check.due("deal(0, -2)", x.deal(0, -2), BAD);
        Check.due("deal(0, 2)", x.deal(0, 2), BAD);
        // 2 to door 0 in 4, 1 to door 1 in 3
        Check.due("deal(5, -1)", x.deal(5, -1), 7);
        Check.due("deal(5, 0)", x.deal(5, 0), 2);
        Check.due("deal(5, 1)", x.deal(5, 1), 1);
        x.send(2, 0, 0);
        // 0 to door 0 in 6, 1 to door 1 in 3
        Check.due("deal(5, -1), 2 gone", x.deal(5, -1), 9);
        Check.due("deal(5, 0), 2 gone", x.deal(5, 0), 0);
        x.send(1, 0, 0);
        Check.due("deal(5, -1), one free", x.deal(5, -1), NONE);
        Check.due("deal(5, 1), one free", x.deal(5, 1), NONE);
        Check.due("deal(5, 2), one free", x.deal(5, 2), BAD);
        // alike in sum: the first by door 0, then by door 1
        DonkeyVerdicts y = Check.laid("w0,1,1;w0,2,1;d0,1;d0,2;b3,1,0;b3,1,0;b3,1,0;");
        Check.due("deal(3, -1), alike", y.deal(3, -1), 2);
        Check.due("deal(3, 0), alike", y.deal(3, 0), 0);
        Check.due("deal(3, 1), alike", y.deal(3, 1), 1);
        // both pass the carrot in 1: the donkey of the lower number eats it, and is not right
        DonkeyVerdicts z = Check.laid("w0,1,1;w1,2,1;w1,3,1;d0,2;d0,3;b0,1,0;b0,1,0;b1,1,0;c1,1;");
        Check.due("deal(4, -1), one carrot", z.deal(4, -1), NONE);
        Check.due("deal(0, -1), one carrot", z.deal(0, -1), 5);
        DonkeyVerdicts unreached = Check.laid("n3;w0,1,1;d0,1;d0,2;b0,1,0;b0,1,0;");
        Check.due("deal(0, -1), no way", unreached.deal(0, -1), NONE);
    }

    private static void luring() {
        DonkeyVerdicts x = new DonkeyVerdicts();
        Check.due("lure(-1)", x.lure(-1), BAD);
        Check.due("lure(4)", x.lure(4), BAD);
        Check.due("lure(0), free", x.lure(0), NO);
        x.send(0, 5, 0);
        x.send(3, 5, 0);
        Check.due("lure(0)", x.lure(0), 1);
        Check.due("lure(3), old", x.lure(3), NONE);
        x.pass(2);
        // 1 is behind it, and in 2 there is a carrot already
        Check.due("lure(0), in 1", x.lure(0), 3);
        x.pass(5);
        Check.due("lure(0), standing", x.lure(0), NO);
        x.home(0);
        Check.due("lure(0), going home", x.lure(0), NO);
        DonkeyVerdicts y = Check.laid("w0,1,1;d0,1;b0,1,0;b0,1,0;c1,1;");
        y.send(0, 0, 0);
        y.send(1, 5, 0);
        Check.due("lure(0), 0 already", y.lure(0), NONE);
        // another carrot in 1 is left for it
        Check.due("lure(1)", y.lure(1), 1);
        // a lawyer reads 4 and 5 alike
        DonkeyVerdicts z = Check.laid("w0,1,1;d3,1;b0,1,0;");
        z.send(0, 5, 0);
        Check.due("lure(0), lawyer", z.lure(0), NONE);
    }

    private static void ahead() {
        DonkeyVerdicts x = new DonkeyVerdicts();
        Check.due("next(-1, 0)", x.next(-1, 0), BAD);
        Check.due("next(4, 0)", x.next(4, 0), BAD);
        Check.due("next(0, -1), free", x.next(0, -1), BAD);
        Check.due("next(0, 0), free", x.next(0, 0), NO);
        x.send(0, 5, 1);
        int[] sent = {1, 4, 5, NONE, NONE};
        for (int k = 0; k < sent.length; k++) {
            Check.due("sent: next(0, " + k + ")", x.next(0, k), sent[k]);
        }
        Check.due("next(0, 2147483647)", x.next(0, Integer.MAX_VALUE), NONE);
        x.pass(1);
        Check.due("on a way: next(0, 0)", x.next(0, 0), 1);
        Check.due("on a way: next(0, 2)", x.next(0, 2), 5);
        x.pass(1);
        Check.due("in 1: next(0, 0)", x.next(0, 0), 4);
        Check.due("in 1: next(0, 1)", x.next(0, 1), 5);
        Check.due("in 1: next(0, 2)", x.next(0, 2), NONE);
        x.pass(9);
        Check.due("standing: next(0, 0)", x.next(0, 0), NO);
        Check.due("standing: next(0, -1)", x.next(0, -1), BAD);
        x.home(0);
        int[] home = {4, 1, 0, NONE};
        for (int k = 0; k < home.length; k++) {
            Check.due("going home: next(0, " + k + ")", x.next(0, k), home[k]);
        }
        DonkeyVerdicts y = Check.laid("d0,0;b0,1,0;");
        y.send(0, 0, 0);
        Check.due("to the court: next(0, 0)", y.next(0, 0), NONE);
        y.pass(1);
        y.home(0);
        Check.due("home in the court: next(0, 0)", y.next(0, 0), NONE);
    }

    private static void meeting() {
        DonkeyVerdicts x = new DonkeyVerdicts();
        Check.due("meet(0, 0)", x.meet(0, 0), BAD);
        Check.due("meet(-1, 0)", x.meet(-1, 0), BAD);
        Check.due("meet(0, 4)", x.meet(0, 4), BAD);
        Check.due("meet(0, 3)", x.meet(0, 3), 0);
        x.send(0, 5, 2);
        x.pass(1);
        Check.due("meet(0, 3), never", x.meet(0, 3), NONE);
        x.send(3, 5, 2);
        // 18 hours to 4, where 0 stands by then
        Check.due("meet(0, 3)", x.meet(0, 3), 18);
        Check.due("meet(3, 0)", x.meet(3, 0), 18);
        x.pass(1);
        Check.due("meet(3, 0) later", x.meet(3, 0), 17);
        // at most 60 hours: 61 are needed from hour 1 on, 60 from hour 2 on
        DonkeyVerdicts y = Check.laid("w0,1,9;w1,2,9;w2,3,2;d0,3;d0,0;b3,1,0;b3,3,0;b3,3,0;");
        y.send(0, 0, 0);
        y.send(1, 0, 0);
        y.send(2, 0, 1);
        y.pass(1);
        Check.due("meet(0, 1) in 59", y.meet(0, 1), 59);
        Check.due("meet(1, 2), one in the court", y.meet(1, 2), NONE);
        DonkeyVerdicts z = Check.laid("w0,1,9;w1,2,9;w2,3,3;d0,3;b3,1,0;b3,3,0;");
        z.send(0, 0, 0);
        z.pass(1);
        z.send(1, 0, 0);
        Check.due("meet(0, 1) in 63", z.meet(0, 1), NONE);
        z.pass(2);
        Check.due("meet(0, 1) in 61", z.meet(0, 1), NONE);
        z.pass(1);
        Check.due("meet(0, 1) in 60", z.meet(0, 1), 60);
    }

    private static void told() {
        DonkeyVerdicts x = new DonkeyVerdicts();
        Check.due("told(-1, 0)", x.told(-1, 0), BAD);
        Check.due("told(4, 0)", x.told(4, 0), BAD);
        Check.due("told(0, -1)", x.told(0, -1), BAD);
        Check.due("told(0, 8)", x.told(0, 8), BAD);
        Check.due("told(0, 0), free", x.told(0, 0), NO);
        x.send(0, 5, 2);
        x.send(1, 5, 2);
        x.send(2, 5, 2);
        Check.due("told(0, 0)", x.told(0, 0), 1);
        Check.due("told(1, 0)", x.told(1, 0), 128);
        Check.due("told(2, 0)", x.told(2, 0), 0);
        Check.due("told(2, 7)", x.told(2, 7), 192);
        x.pass(6);
        // 3 less for a carrot and a mare
        Check.due("told(0, 0), standing", x.told(0, 0), 15);
        Check.due("told(0, 4), standing", x.told(0, 4), 128);
        Check.due("told(0, 5), standing", x.told(0, 5), 0);
        Check.due("told(2, 0), standing", x.told(2, 0), 7);
        Check.due("told(2, 4), standing", x.told(2, 4), 192);
        x.home(0);
        Check.due("told(0, 0), going home", x.told(0, 0), NO);
    }

    private static void who() {
        DonkeyVerdicts x = new DonkeyVerdicts();
        Check.due("who(-1, 0, 0)", x.who(-1, 0, 0), BAD);
        Check.due("who(4, 0, 0)", x.who(4, 0, 0), BAD);
        Check.due("who(0, -1, 0)", x.who(0, -1, 0), BAD);
        Check.due("who(0, 8, 0)", x.who(0, 8, 0), BAD);
        Check.due("who(0, 0, -1)", x.who(0, 0, -1), BAD);
        Check.due("who(0, 0, 2)", x.who(0, 0, 2), BAD);
        // to 3, with a carrot in 2: 0 by 0, 1; 1 by 6, 7; 2 by 0; 3 by 0
        Check.due("who(0, 0, 0)", x.who(0, 0, 0), 6);
        Check.due("who(0, 0, 1)", x.who(0, 0, 1), 0);
        // 0 by 7; 1 by 0; 2 by 6, 7; 3 by 6
        Check.due("who(0, 6, 0)", x.who(0, 6, 0), 5);
        Check.due("who(0, 6, 1)", x.who(0, 6, 1), 7);
        x.send(0, 0, 2);
        Check.due("who(0, 6, 0), 0 gone", x.who(0, 6, 0), 4);
        Check.due("who(0, 6, 1), 0 gone", x.who(0, 6, 1), 10);
        Check.due("who(1, 7, 0), blind", x.who(1, 7, 0), 0);
        Check.due("who(1, 7, 1), blind", x.who(1, 7, 1), NONE);
    }
}
