import java.util.function.ToIntFunction;

/**
 * An object in which there is one beast of each state: 0 WAITS (for 1 HOUR, in 1), 1 is on a WAY (to 1,
 * 2 HOURS to go), 2 is FREE, 3 STANDS (in the COURT), 4 GOES HOME (from 1). 7 can be undone, 1 is kept, and
 * the text would lay another court. Door 4 is none, places are 0 to 7, door 2's place 6 has no way to it.
 */
final class Busy {
    static final String TEXT = "n8;w0,1,2;w1,2,3;w2,7,1;d0,1;d1,7;d2,6;d3,0;"
        + "b0,1,9;b1,2,5;b2,1,7;b3,3,2;b3,1,0;c1,2;m2;";

    private Busy() { }

    static DonkeyVerdicts made() {
        DonkeyVerdicts x = Check.laid(TEXT);
        x.send(4, 6, 0);
        x.send(0, 7, 1);
        x.keep();
        x.send(1, 3, 1);
        x.send(3, 5, 3);
        x.pass(2);
        x.home(4);
        x.carrots(5, 9);
        x.write('m');
        x.write('3');
        x.write(';');
        return x;
    }

    /** One more is kept, so that it is full. */
    static DonkeyVerdicts full() {
        DonkeyVerdicts x = made();
        x.keep();
        return x;
    }

    static void refused(String call, int want, ToIntFunction<DonkeyVerdicts> asked) {
        Look.refused(call, want, Busy::made, asked);
    }

    static void unchanged(String call, ToIntFunction<DonkeyVerdicts> asked) {
        Look.unchanged(call, Busy::made, asked);
    }
}
